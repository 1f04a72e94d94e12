import java.util.List;

/** The edges of THE TEXT of an INN and its FAULTS (promise 2). Each test bears the sentence that it is about. */
public final class TextEdgesTest {
    private static final Check CHECK = new Check();
    private static final String SEVEN = "g000;g000;g000;g000;g000;g000;g000;";

    public static void main(String[] args) {
        oneAtLeast();
        manyStatements();
        lettersAlone();
        digitsAlone();
        semicolonBehind();
        theEndIfSomethingLacks();
        kind1BeforeKind2();
        firstStatement();
        kindFigureWish();
        noRoom();
        howManyOfAPlate();
        soManyMore();
        noSuchGuest();
        healthOfOne();
        thereThen();
        lastPlate();
        nightsOfAText();
        nightAbove999();
        inTheirOrder();
        lowestBitsOfItsBytes();
        withOneNothing();
        rowsAlone();
        CHECK.end("TextEdgesTest");
    }

    private static void due(String call, long got, long want) {
        CHECK.due(call, got, want);
    }

    /** What a new inn answers to a text; with a FAULT it must be as if nothing had been told. */
    private static void told(String text, int want) {
        ServesWhatOneDreamt x = new ServesWhatOneDreamt();
        due("the text '" + text + "'", Check.tell(x, text), want);
        if (want < 0) {
            x.keep(7, 0, 0, 0);
            due("nothing came by '" + text + "'", Told.all(x).equals(Told.all(new ServesWhatOneDreamt())) ? 1 : 0, 1);
        }
    }

    /** "STATEMENTS, each with ";" behind, one at least". */
    private static void oneAtLeast() {
        told("", -1000);
        told(";", -1000);
        told("d01;", 1);
        told("d01;d01;", 2);
        ServesWhatOneDreamt x = new ServesWhatOneDreamt();
        x.row(0, 0, 1);
        due("a byte 0", x.inn(0), -1000);
        x.row(0, 0, 0);
        due("a row of none", x.inn(0), -1000);
    }

    /** "how many STATEMENTS": as many as 100 elements can hold. */
    private static void manyStatements() {
        told("b01;".repeat(25), 25);
        told("l001;".repeat(20), 20);
        told("b01;".repeat(24) + "b01", -1099);
        told("b01;".repeat(24) + "l001", -1100);
    }

    /** "the first byte with which no INN can go on": a letter's place. */
    private static void lettersAlone() {
        for (int sign = 0; sign < 256; sign++) {
            int digits = "glh".indexOf(sign) >= 0 ? 3 : "webd".indexOf(sign) >= 0 ? 2 : 0;
            String text = "l000;" + (char) sign + "000;";
            int want = digits == 0 ? -1005 : digits == 2 ? -1008 : sign == 'h' ? -2005 : 2;
            told(text, want);
        }
    }

    /** "(a digit each)", "(2 digits)": what is beside the digits is none, in each of their places. */
    private static void digitsAlone() {
        for (String whole : List.of("g000;", "l000;", "h001;", "w00;", "e00;", "b00;", "d01;")) {
            for (int place = 1; place < whole.length() - 1; place++) {
                for (char sign : new char[] {'/', ':', ' ', '-', 'g', ';', 0, 127, 128, 176, 255}) {
                    String text = whole.substring(0, place) + sign + whole.substring(place + 1);
                    told("g000;" + text, -1005 - place);
                }
            }
        }
        told("g099;l999;w09;e09;b99;h099;", 6);
    }

    /** "each with ";" behind": a digit more, or another sign, is what no INN can go on with. */
    private static void semicolonBehind() {
        for (String statement : List.of("g000", "l000", "h001", "w00", "e00", "b00", "d01")) {
            for (char sign : new char[] {'0', '9', ':', '<', ' ', 'g', 0, 187}) {
                told("g000;" + statement + sign, -1005 - statement.length());
            }
            told("g000;" + statement + ";", 2);
            told("g000;" + statement + ";;", -1006 - statement.length());
        }
    }

    /** "(the end, if something lacks)". */
    private static void theEndIfSomethingLacks() {
        for (String statement : List.of("g000;", "l000;", "h001;", "w00;", "e00;", "b00;", "d01;")) {
            for (int length = 1; length < statement.length(); length++) {
                told(statement.substring(0, length), -1000 - length);
                told("g000;" + statement.substring(0, length), -1005 - length);
            }
        }
        told("b00;".repeat(24) + "b", -1097);
        told("b00;".repeat(24) + "l099", -1100);
    }

    /** "else kind 2": a FAULT of kind 1 is told though one of kind 2 is ahead of it. */
    private static void kind1BeforeKind2() {
        told("g800;", -2000);
        told("g800;x", -1005);
        told("g800;g00", -1008);
        told("d00;d61;d99;;", -1012);
        told(SEVEN + "g000;w", -1041);
        told("w00;h000;e00;d00", -1016);
    }

    /** "the place of the letter of the first STATEMENT that is not as it must be". */
    private static void firstStatement() {
        told("w00;e00;", -2000);
        told("g000;w10;e10;", -2005);
        told("g000;w00;e10;w10;", -2009);
        told("b01;".repeat(24) + "d00;", -2096);
        told("b01;".repeat(23) + "d61;" + "d00;", -2092);
        told("l001;".repeat(19) + "g800;", -2095);
    }

    /** ""g" KIND, FIGURE, WISH (a digit each)", "a number out of range". */
    private static void kindFigureWish() {
        told("g700;", 1);
        told("g800;", -2000);
        told("g900;", -2000);
        ServesWhatOneDreamt x = Check.inn("g000;g799;");
        due("the least kind", x.guest(0, 0), 0);
        due("the least figure", x.guest(0, 1), 0);
        due("the least wish", x.guest(0, 2), 0);
        due("the greatest kind", x.guest(1, 0), 7);
        due("the greatest figure", x.guest(1, 1), 9);
        due("the greatest wish", x.guest(1, 2), 9);
        due("two of them", x.count(0), 2);
    }

    /** "no room". */
    private static void noRoom() {
        told(SEVEN, 7);
        told(SEVEN + "g000;", -2035);
        told(SEVEN + "w00;g000;", -2039);
        ServesWhatOneDreamt x = Check.inn(SEVEN);
        due("no room, nor a plate", Check.tell(x, "l099;g000;"), -2005);
        due("the plate is as it was", x.larder(0), 5);
        due("a text without one more", Check.tell(x, "l099;"), 1);
        due("the plate", x.larder(0), 99);
        x = Check.inn("g000;g000;g000;g000;g000;g000;");
        due("room for one", Check.tell(x, "g000;g000;"), -2005);
        due("he did not come either", x.count(0), 6);
        due("room for one", Check.tell(x, "g000;"), 1);
        due("he came", x.count(0), 7);
    }

    /** ""l" a PLATE (a digit), how many (2 digits): the LARDER has so many". */
    private static void howManyOfAPlate() {
        ServesWhatOneDreamt x = Check.inn("l000;l999;l507;l670;");
        due("none of 0", x.larder(0), 0);
        due("99 of 9", x.larder(9), 99);
        due("7 of 5", x.larder(5), 7);
        due("70 of 6", x.larder(6), 70);
        due("5 of 1 still", x.larder(1), 5);
    }

    /** ""b" a PLATE, how many (a digit each): so many more (99 at most)". */
    private static void soManyMore() {
        ServesWhatOneDreamt x = Check.inn("b00;b99;b11;");
        due("none more of 0", x.larder(0), 5);
        due("9 more of 9", x.larder(9), 14);
        due("1 more of 1", x.larder(1), 6);
        x = Check.inn("l090;b09;l190;b18;l291;b29;l399;b30;l499;b49;");
        due("90 and 9", x.larder(0), 99);
        due("90 and 8", x.larder(1), 98);
        due("91 and 9", x.larder(2), 99);
        due("99 and 0", x.larder(3), 99);
        due("99 and 9", x.larder(4), 99);
    }

    /** "no such GUEST": one who is told of before he comes is none. */
    private static void noSuchGuest() {
        for (String statement : List.of("w00;", "e00;", "h001;")) {
            told(statement, -2000);
            told(statement + "g000;", -2000);
            told("g000;" + statement, 2);
            String second = statement.charAt(0) + "1" + statement.substring(2);
            told("g000;" + second, -2005);
            told("g000;g000;" + second, 3);
            String seventh = statement.charAt(0) + "6" + statement.substring(2);
            told(SEVEN + seventh, 8);
            String eighth = statement.charAt(0) + "7" + statement.substring(2);
            told(SEVEN + eighth, -2035);
            String tenth = statement.charAt(0) + "9" + statement.substring(2);
            told(SEVEN + tenth, -2035);
        }
    }

    /** ""h" a GUEST (a digit), HEALTH (2 digits, 1 .. 99 ..)". */
    private static void healthOfOne() {
        told("g000;h000;", -2005);
        told("g000;h001;", 2);
        told("g000;h099;", 2);
        ServesWhatOneDreamt x = Check.inn("g000;g000;g000;h001;h199;h210;");
        due("health 1", x.guest(0, 4), 1);
        due("health 99", x.guest(1, 4), 99);
        due("health 10", x.guest(2, 4), 10);
        due("0 is refused", Check.tell(x, "h200;"), -2000);
        due("health 10 still", x.guest(2, 4), 10);
    }

    /** ""h" .. (.. THERE then)": one GONE is THERE by it, one THERE stays so; "w" and "e" bring nobody back. */
    private static void thereThen() {
        ServesWhatOneDreamt x = Check.inn("g300;g300;h005;h105;d01;");
        due("both are gone", x.count(4), 0);
        due("a wish and a last plate", Check.tell(x, "w03;e04;"), 2);
        due("both are gone still", x.count(4), 0);
        due("his wish", x.guest(0, 2), 3);
        due("his last plate", x.guest(0, 3), 4);
        due("health 1", Check.tell(x, "h101;"), 1);
        due("the second is there", x.count(4), 2);
        due("with health 1", x.guest(1, 4), 1);
        due("he dreams in night 2", x.table(1, 0), 0);
        due("there already", Check.tell(x, "h102;"), 1);
        due("the second is there", x.count(4), 2);
        due("with a fault none is back", Check.tell(x, "h050;h000;"), -2005);
        due("the first is gone", x.guest(0, 5), 0);
        due("with health 0", x.guest(0, 4), 0);
    }

    /** ""w" a GUEST, WISH", ""e" a GUEST, a PLATE (a digit each): his LAST PLATE". */
    private static void lastPlate() {
        ServesWhatOneDreamt x = Check.inn("g003;g004;w10;e19;w09;e00;");
        due("the first's wish", x.guest(0, 2), 9);
        due("the first's last plate", x.guest(0, 3), 0);
        due("the second's wish", x.guest(1, 2), 0);
        due("the second's last plate", x.guest(1, 3), 9);
        due("nothing else", x.guest(1, 4), 50);
    }

    /** ""d" NIGHTS (2 digits, 1 .. 60)". */
    private static void nightsOfAText() {
        told("d00;", -2000);
        told("d01;", 1);
        told("d10;", 1);
        told("d60;", 1);
        told("d61;", -2000);
        told("d99;", -2000);
        due("1 night", Check.inn("d01;").count(1), 1);
        due("10 nights", Check.inn("d10;").count(1), 10);
        due("60 nights", Check.inn("d60;").count(1), 60);
        due("120 nights", Check.inn("d60;d60;").count(1), 120);
    }

    /** "NIGHT above 999". */
    private static void nightAbove999() {
        ServesWhatOneDreamt x = Told.inNight(939, "");
        due("939 and 60", Check.tell(x, "d60;"), 1);
        due("night", x.count(1), 999);
        due("and 1", Check.tell(x, "d01;"), -2000);
        due("and 60", Check.tell(x, "d60;"), -2000);
        due("without a night a text comes", Check.tell(x, "b01;"), 1);
        x = Told.inNight(940, "");
        due("940 and 60", Check.tell(x, "d60;"), -2000);
        due("night", x.count(1), 940);
        due("940 and 59, and 1", Check.tell(x, "d59;d01;"), -2004);
        due("night", x.count(1), 940);
        due("940 and 58, and 1", Check.tell(x, "d58;d01;"), 2);
        due("night", x.count(1), 999);
    }

    /** A text's STATEMENTS come one behind the other. */
    private static void inTheirOrder() {
        ServesWhatOneDreamt x = Check.inn("l100;d01;g100;d01;l100;");
        due("2 came, 1 was eaten, none is told", x.larder(1), 0);
        due("he ate once", x.count(2), 1);
        x = Check.inn("g100;l100;d01;d01;w00;b19;");
        due("2 came, 2 were eaten, 9 more", x.larder(1), 9);
        due("he ate twice", x.count(2), 2);
        x = Check.inn("g300;h005;d01;h005;");
        due("gone, and back", x.count(4), 1);
        x = Check.inn("g000;h005;h007;w01;w02;e03;e04;l001;l002;");
        due("the last health counts", x.guest(0, 4), 7);
        due("the last wish counts", x.guest(0, 2), 2);
        due("the last last plate counts", x.guest(0, 3), 4);
        due("the last stock counts", x.larder(0), 2);
    }

    /** "what is put in keeps its lowest bits": a byte is read as what is left of it. */
    private static void lowestBitsOfItsBytes() {
        ServesWhatOneDreamt x = new ServesWhatOneDreamt();
        Check.write(x, 0, 0, 'd' + 256, '0' - 256, '7' + 65536, ';' + 1024);
        due("d07;", x.inn(0), 1);
        due("7 nights", x.count(1), 7);
        Check.write(x, 0, 0, 'd' + 128, '0', '7', ';');
        due("no d", x.inn(0), -1000);
    }

    /** "Without FAULT all of it comes, with one nothing." */
    private static void withOneNothing() {
        String some = "g004;g105;w13;e12;h177;l042;b09;d03;";
        for (String fault : List.of("x", "g", "g000", "g000;g", "d00;", "w90;", "g900;")) {
            told(some + fault, fault.endsWith(";") ? -2036 : fault.equals("x") ? -1036 : -1036 - fault.length());
        }
        ServesWhatOneDreamt x = Check.inn(some);
        due("guests", x.count(0), 2);
        due("night", x.count(1), 3);
        due("served", x.count(2), 6);
        due("the first's last plate", x.guest(0, 3), 4);
        due("the second's wish", x.guest(1, 2), 3);
        due("the second's health", x.guest(1, 4), 80);
        due("plates", x.larder(0), 51);
        due("the text stays on its shelf", Check.element(x, 7, 0), 'g');
        due("told twice it comes twice", x.inn(7), 8);
        due("guests", x.count(0), 4);
        Check.write(x, 7, "g000;w29;e29;h201;l000;b19;d60;d00;");
        x.image();
        List<Long> before = Told.all(x);
        due("a fault at the end", x.inn(7), -2031);
        due("nothing came", Told.all(x).equals(before) ? 1 : 0, 1);
        x.restore();
        due("nor to the image", Told.all(x).equals(before) ? 1 : 0, 1);
    }

    /** "-1, -11, -12 (no ROW of bytes)": before any FAULT. */
    private static void rowsAlone() {
        ServesWhatOneDreamt x = new ServesWhatOneDreamt();
        due("shelf 0", x.inn(0), -11);
        due("shelf 7", x.inn(7), -11);
        due("shelf 8", x.inn(8), -1);
        due("shelf -1", x.inn(-1), -1);
        x.keep(0, 1, 0, 0);
        due("a guest", x.inn(0), -12);
        x.row(0, 1, 0);
        due("no shorts, before a fault", x.inn(0), -12);
        Check.write(x, 0, 1, 'd', '0', '1', ';');
        due("shorts that would do", x.inn(0), -12);
        Check.write(x, 0, 2, 'd', '0', '1', ';');
        due("ints that would do", x.inn(0), -12);
        due("no night came", x.count(1), 0);
        Check.write(x, 0, 0, 'd', '0', '1', ';');
        due("bytes", x.inn(0), 1);
    }
}
