/** Promises 15 to 18, and the law's texts. */
public final class LawTest {
    private static final Due due = new Due();

    public static void main(String[] args) {
        tape();
        heat();
        faults();
        worths();
        names();
        lawStays();
        due.end();
    }

    private static void tape() {
        DinnerBoxes x = new DinnerBoxes();
        for (int i = 1; i <= 10; i++) due.is("feed " + i, x.feed(0, -1, 1 << 31), 12 * i);
        due.is("feed full", x.feed(0, 0, 0), Due.FULL);
        due.is("trim 121", x.trim(121), Due.BAD);
        due.is("trim -1", x.trim(-1), Due.BAD);
        due.is("trim 120", x.trim(120), 120);
        due.is("trim 109", x.trim(109), 109);
        due.is("feed too long", x.feed(0, 0, 0), Due.FULL);
        due.is("tape stays", x.count(8), 109);
        due.is("trim 108", x.trim(108), 108);
        due.is("feed fits", x.feed(0, 0, 0), 120);
        due.is("law of zeros", x.law(), -100);
        due.is("tape is used up", x.count(8), 0);
        due.is("trim empty", x.trim(0), 0);
        due.is("law of nothing", x.law(), -100);
        Due.write(x, "mark 1 ice 23 ");
        due.is("trim text", x.trim(12), 12);
        x.feed(Due.four("4   ", 0), Due.four("    ", 0), Due.four("    ", 0));
        due.is("law of joined", x.law(), 2);
        x.family(0, 1);
        x.meal(0, 0);
        x.menu(1);
        due.is("ice of joined", x.ice(0), 24);
        due.is("tape used up by a right law", x.count(8), 0);
        Due.write(x, "mark 1 ice gg");
        x.trim(12);
        due.is("what is trimmed is not read: a letter", x.law(), 2);
        Due.write(x, "mark 1 ice 345678");
        x.trim(15);
        due.is("what is trimmed is not read: digits", x.law(), 2);
        due.is("ice of what is left", x.ice(0), 3456);
        StringBuilder whole = new StringBuilder("mark 1 ice 1");
        while (whole.length() < 120) whole.append("+1");
        due.is("a tape that is full", Due.law(x, whole.toString()), 56);
        due.is("ice of a full tape", x.ice(0), 55);
        due.is("a full tape, a word at its end", Due.law(x, whole.substring(0, 118) + "+g"), 56);
        due.is("a full tape that ends too soon", Due.law(x, whole.substring(0, 119) + "+"), -219);
        due.is("a full tape that ends behind a sign", Due.law(x, whole.substring(0, 118) + "- "), -220);
    }

    private static void heat() {
        DinnerBoxes x = new DinnerBoxes();
        due.is("heat at first", x.heat(0), 20);
        due.is("heat 60", x.heat(60), 0);
        due.is("heat 61", x.heat(61), Due.BAD);
        due.is("heat -1", x.heat(-1), Due.BAD);
        due.is("heat stays", x.heat(5), 60);
        x.end();
        due.is("heat goes on", x.heat(6), 5);
    }

    private static void fault(String text, int place) {
        due.is("fault of <" + text + ">", Due.law(new DinnerBoxes(), text), -100 - place);
    }

    private static void right(String text, int values) {
        due.is("values of <" + text + ">", Due.law(new DinnerBoxes(), text), values);
    }

    private static void faults() {
        fault("", 0);
        fault("   ", 3);
        fault("mark", 4);
        fault("mark  ", 6);
        fault("mark 1", 6);
        fault("mark 1 ", 7);
        fault("mark 1 ice", 10);
        fault("mark 1 ice  ", 12);
        fault("mar 1 ice 1", 0);
        fault("  marks 1 ice 1", 2);
        fault("Mark 1 ice 1", 0);
        fault("dark 1 ice 1", 0);
        fault("markz 1 ice 1", 0);
        fault("marka 1 ice 1", 0);
        fault("mark 1 ace 1", 7);
        fault("mark 1 icy 1", 7);
        fault("mark 1z ice 1", 6);
        fault("ice 1 mark 1", 0);
        fault("mark1 ice 1", 4);
        fault("mark 1ice 1", 6);
        fault("mark g ice1", 10);
        fault("markg ice 1", 0);
        fault("mark 1g ice 1", 6);
        fault("mark g1 ice 1", 6);
        fault("mark 1 1 ice 1", 7);
        fault("mark gg ice 1", 5);
        fault("mark m ice 1", 5);
        fault("mark h ice 1", 5);
        fault("mark r ice 1", 5);
        fault("mark 1 ice n", 11);
        fault("mark 1 ice a", 11);
        fault("mark 1 ice k", 11);
        fault("mark 1 ice c", 11);
        fault("mark 123456 ice 1", 5);
        fault("mark 000001 ice 1", 5);
        fault("mark 1 ice 1+100000", 13);
        fault("mark 1<2<3 ice 1", 8);
        fault("mark 1=2>3 ice 1", 8);
        fault("mark 1 ice 1 ice 1", 13);
        fault("mark 1 ice 1)", 12);
        fault("mark (1 ice 1", 8);
        fault("mark (1 ice", 8);
        fault("mark () ice 1", 6);
        fault("mark + ice 1", 5);
        fault("mark -1 ice 1", 5);
        fault("mark 1+ ice 1", 8);
        fault("mark 1+*2 ice 1", 7);
        fault("mark 1&&1 ice 1", 7);
        fault("mark 1!1 ice 1", 6);
        fault("mark ! ice 1", 7);
        fault("mark !", 6);
        fault("mark 1 ice (1", 13);
        fault("mark 1\tice 1", 6);
        fault("mark " + (char) 233 + " ice 1", 5);
        fault("mark 1 ice " + (char) 0, 11);
        fault("mark ((((((((( 1 ))))))))) ice 1", 13);
        fault("mark !!!!!!!!!1 ice 1", 13);
        fault("mark !(!(!(!(!!!!(!1))))) ice 1", 18);
        fault("mark 1 ice ((((((((2))))))))+((((((((( ", 37);
        fault("mark 1 mark", 7);
        fault("mark 1, ice 1", 6);
        right("mark 1 ice 1", 2);
        right("   mark   1   ice   1   ", 2);
        right("mark(1)ice(1)", 2);
        right("mark!(1)ice 1", 2);
        right("mark 99999 ice 00000", 2);
        right("mark((((((((1))))))))ice((((((((g))))))))", 2);
        right("mark!!!!!!!!1 ice!!!!!!!!r", 2);
        right("mark (((( !!!! (((( !!!! g )))) )))) ice 1", 2);
        right("mark (1)+((((((((1)))))))) ice 1", 3);
        right("mark !!!!!!!!1&!!!!!!!!1 ice 1", 3);
        right("mark 1<2&3=4|5>6 ice (1<2)<3", 9);
        right("mark g+n-a*k/c ice g|m&h<r", 9);
    }

    private static void worth(String text, int want) {
        DinnerBoxes x = new DinnerBoxes();
        x.meal(0, 0);
        x.family(0, 1);
        x.menu(1);
        Due.law(x, "mark (" + text + ")=(" + want + ") ice " + text);
        due.is("mark of " + text, x.about(0, 6), 1);
        due.is("ice of " + text, x.ice(0), want);
    }

    private static void worths() {
        worth("2+3*4", 14);
        worth("(2+3)*4", 20);
        worth("9-3-2", 4);
        worth("9-(3-2)", 8);
        worth("100/7/2", 7);
        worth("100/(7/2)", 33);
        worth("7*3/2", 10);
        worth("7/2*3", 9);
        worth("5/0", 0);
        worth("5/0+3", 3);
        worth("10-(0-7)/2", 13);
        worth("1+1<3", 1);
        worth("3<1+1", 0);
        worth("2=2", 1);
        worth("2>2", 0);
        worth("3>2", 1);
        worth("2<2", 0);
        worth("5&7", 1);
        worth("5&0", 0);
        worth("0|7", 1);
        worth("0|0", 0);
        worth("1|0&0", 1);
        worth("(1|0)&0", 0);
        worth("!5", 0);
        worth("!0", 1);
        worth("!!5", 1);
        worth("!0+4", 5);
        worth("!(0+4)", 0);
        worth("!0*7", 7);
        worth("1<2&2<3", 1);
        worth("0=1|3", 1);
        worth("7", 7);
        worth("(7)", 7);
        worth("(0-1)&1", 1);
        worth("99999*99999/10000/100", 1409);
        worth("65536*65536", 0);
        worth("32768*65536/(0-1)<0", 1);
        worth("32768*65536<0", 1);
    }

    private static void names() {
        DinnerBoxes x = new DinnerBoxes();
        x.part(7, 20000, 1);
        x.part(12, 5000, 1);
        x.meal(2, 0);
        x.with(0, 0, 30);
        x.with(0, 1, 55);
        int[][] values = {{'g', 85}, {'n', 2}, {'a', 4}, {'k', 2}, {'c', 87}};
        for (int[] v : values) {
            Due.law(x, "mark " + (char) v[0] + "=" + v[1] + " ice 1");
            due.is("mark name " + (char) v[0], x.about(0, 6), 1);
        }
        Due.law(x, "mark g-85 ice 1");
        due.is("not marked", x.about(0, 6), 0);
        Due.law(x, "mark g-86 ice 1");
        due.is("marked below 0", x.about(0, 6), 1);
    }

    private static void lawStays() {
        DinnerBoxes x = new DinnerBoxes();
        x.meal(0, 0);
        x.family(0, 1);
        x.menu(1);
        Due.law(x, "mark 1 ice 77");
        due.is("fault in ice", Due.law(x, "mark 0 ice 78 ("), -114);
        due.is("mark stays", x.about(0, 6), 1);
        due.is("ice stays", x.ice(0), 77);
        due.is("a shorter law", Due.law(x, "mark 0 ice 5"), 2);
        due.is("mark is new", x.about(0, 6), 0);
        due.is("ice is new", x.ice(0), 5);
    }
}
