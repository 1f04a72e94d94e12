/** Promises 1 to 9: the inn as told. */
public final class InnPromisesTest {
    private static final Check CHECK = new Check();

    public static void main(String[] args) {
        promise1();
        promise2();
        promise2Faults();
        promise2Edges();
        promise2Refusals();
        promise3();
        promise4And8();
        promise5();
        promise6();
        promise7();
        promise9();
        promise9Kinds();
        promise9Edges();
        CHECK.end("InnPromisesTest");
    }

    private static void due(String call, long got, long want) {
        CHECK.due(call, got, want);
    }

    private static void promise1() {
        ServesWhatOneDreamt x = new ServesWhatOneDreamt();
        int[] counts = {0, 0, 0, 0, 0, 50};
        for (int what = 0; what < counts.length; what++) {
            due("new: count(" + what + ")", x.count(what), counts[what]);
        }
        for (int k = 0; k < 10; k++) {
            due("new: larder(" + k + ")", x.larder(k), 5);
        }
        for (int d = 0; d < 8; d++) {
            due("new: cost(" + d + ")", x.cost(d), -11);
        }
        due("new: guest(0, 0)", x.guest(0, 0), -1);
        due("new: restore()", x.restore(), -3);
    }

    private static void promise2() {
        ServesWhatOneDreamt x = new ServesWhatOneDreamt();
        due("seven statements", Check.tell(x, "g352;l742;w09;h007;e08;b79;d01;"), 7);
        due("g's kind", x.guest(0, 0), 3);
        due("g's figure", x.guest(0, 1), 5);
        due("w's wish", x.guest(0, 2), 9);
        due("e's last plate", x.guest(0, 3), 8);
        due("h's health, a night without a dream behind", x.guest(0, 4), 2);
        due("l's and b's plates", x.larder(7), 51);
        due("d's night", x.count(1), 1);
        due("d's plates", x.larder(1), 7);
        due("another text comes on top", Check.tell(x, "g124;"), 1);
        due("the second one", x.guest(1, 0), 1);
        due("his figure", x.guest(1, 1), 2);
        due("his wish", x.guest(1, 2), 4);
        due("his health", x.guest(1, 4), 50);
        due("a night's order: l behind d", Check.tell(x, "d01;l200;"), 2);
        due("a night's order", x.larder(2), 0);
    }

    private static void promise2Faults() {
        String[] texts = {"", "x", ";", "g", "g000", "g00;", "g0000;", "g000;;", "g000;g", "g0x0;", "w0;", "w000;", "d1;",
            "d001;", "l10;", "b000;", "e000;", "h00;", "G000;", "g000;w99;x", "g900;l", "g/00;", "g:00;"};
        int[] faults = {-1000, -1000, -1000, -1001, -1004, -1003, -1004, -1005, -1006, -1002, -1002, -1003, -1002,
            -1003, -1003, -1003, -1003, -1003, -1000, -1009, -1006, -1001, -1001};
        for (int i = 0; i < texts.length; i++) {
            ServesWhatOneDreamt x = new ServesWhatOneDreamt();
            due("the text '" + texts[i] + "'", Check.tell(x, texts[i]), faults[i]);
            due("nobody came by '" + texts[i] + "'", x.count(0), 0);
        }
        String[] wrong = {"g800;", "g900;", "g000;w10;", "w00;", "g000;e10;", "g000;h110;", "g000;h000;", "d00;", "d61;",
            "d99;", "l099;g000;d01;d62;", "g000;g000;g000;g000;g000;g000;g000;g000;"};
        int[] places = {0, 0, 5, 0, 5, 5, 5, 0, 0, 0, 14, 35};
        for (int i = 0; i < wrong.length; i++) {
            ServesWhatOneDreamt x = new ServesWhatOneDreamt();
            due("the text '" + wrong[i] + "'", Check.tell(x, wrong[i]), -2000 - places[i]);
            due("nobody came by '" + wrong[i] + "'", x.count(0), 0);
            due("no plate came by '" + wrong[i] + "'", x.count(5), 50);
            due("no night came by '" + wrong[i] + "'", x.count(1), 0);
        }
    }

    private static void promise2Edges() {
        ServesWhatOneDreamt x = new ServesWhatOneDreamt();
        due("16 times 60 nights and 39", Check.tell(x, "d60;".repeat(16) + "d39;"), 17);
        due("night 999", x.count(1), 999);
        due("99 plates at most", x.count(5), 990);
        due("night 1000", Check.tell(x, "l000;d01;"), -2005);
        due("nothing came", x.larder(0), 99);
        due("in mind night 1000 is well", x.larderThen(0, 1), 99);

        x = Check.inn("g300;h005;d01;");
        due("gone without a dream", x.guest(0, 5), 0);
        due("h brings him back", Check.tell(x, "h030;"), 1);
        due("he is there", x.guest(0, 5), 1);
        due("his health", x.guest(0, 4), 30);

        x = Check.inn("l097;b05;h");
        due("a text with a fault", x.larder(0), 5);
        due("b is cut at 99", Check.tell(x, "l097;b05;l196;b12;"), 4);
        due("99 at most", x.larder(0), 99);
        due("below 99", x.larder(1), 98);
        due("1 and 99 of health", Check.tell(x, "g000;g000;h001;h199;"), 4);
        due("health 1", x.guest(0, 4), 1);
        due("health 99", x.guest(1, 4), 99);
        due("all of 100 bytes", Check.tell(x, "l000;".repeat(20)), 20);
        due("one who is gone wishes and tastes", Check.tell(x, "w03;d02;w04;e05;"), 4);
    }

    private static void promise2Refusals() {
        ServesWhatOneDreamt x = new ServesWhatOneDreamt();
        due("no shelf", x.inn(8), -1);
        due("no shelf", x.inn(-1), -1);
        due("nothing", x.inn(0), -11);
        x.keep(0, 1, 0, 0);
        due("a kind", x.inn(0), -12);
        x.row(0, 1, 5);
        due("shorts", x.inn(0), -12);
        x.row(0, 2, 5);
        due("ints", x.inn(0), -12);
        x.row(0, 0, 1);
        x.put(0, 0, -1);
        due("a byte below 0", x.inn(0), -1000);
    }

    private static void promise3() {
        ServesWhatOneDreamt x = Check.inn("g046;g146;g246;g346;g446;g546;g646;");
        int[] eats = {1, 1, 2, 1, 1, 1, 1};
        int[] gains = {12, 11, 13, 13, 11, 10, 14};
        for (int g = 0; g < 7; g++) {
            due("kind of " + g, x.guest(g, 0), g);
            due("figure of " + g, x.guest(g, 1), 4);
            due("wish of " + g, x.guest(g, 2), 6);
            due("last plate of " + g, x.guest(g, 3), 0);
            due("health of " + g, x.guest(g, 4), 50);
            due("there, of " + g, x.guest(g, 5), 1);
            due("eats, of " + g, x.guest(g, 6), eats[g]);
            due("gain of " + g, x.guest(g, 7), gains[g]);
        }
        due("no what", x.guest(0, 8), -1);
        due("no what", x.guest(0, -1), -1);
        due("no guest", x.guest(7, 0), -1);
        due("no guest", x.guest(-1, 0), -1);
        x = Check.inn("g746;g749;g000;g349;g540;g249;");
        due("a traveller eats", x.guest(0, 6), 2);
        due("a traveller's gain", x.guest(0, 7), 12);
        due("a traveller's gain, 0 at least", x.guest(1, 7), 10);
        due("a guest's gain from his last plate", x.guest(2, 7), 10);
        due("a cook's gain from 9", x.guest(3, 7), 10);
        due("a child's gain below 0", x.guest(4, 7), 7);
        due("a bride's gain from 9, cut", x.guest(5, 7), 14);
        due("beyond those who came", x.guest(6, 0), -1);
    }

    private static void promise4And8() {
        ServesWhatOneDreamt x = new ServesWhatOneDreamt();
        due("fills(3, 99)", x.fills(3, 99), 5);
        due("larder(3)", x.larder(3), 99);
        due("fills(3, 0)", x.fills(3, 0), 99);
        due("larder(3)", x.larder(3), 0);
        due("larder(4)", x.larder(4), 5);
        due("larder(9)", x.larder(9), 5);
        due("larder(10)", x.larder(10), -1);
        due("larder(-1)", x.larder(-1), -1);
        due("fills(10, 1)", x.fills(10, 1), -1);
        due("fills(-1, 1)", x.fills(-1, 1), -1);
        due("fills(3, 100)", x.fills(3, 100), -1);
        due("fills(3, -1)", x.fills(3, -1), -1);
        due("refused, so unchanged", x.larder(3), 0);
        due("fills(0, 1)", x.fills(0, 1), 5);
        due("fills(9, 1)", x.fills(9, 1), 5);
        due("in all", x.count(5), 37);
    }

    private static void promise5() {
        ServesWhatOneDreamt x = new ServesWhatOneDreamt();
        x.keep(0, 1, 2, 7);
        due("the first", x.comes(0, 9), 0);
        due("his kind", x.guest(0, 0), 2);
        due("his figure", x.guest(0, 1), 7);
        due("his wish", x.guest(0, 2), 9);
        due("his last plate", x.guest(0, 3), 0);
        due("his health", x.guest(0, 4), 50);
        due("there", x.guest(0, 5), 1);
        due("no shelf", x.comes(8, 0), -1);
        due("no shelf", x.comes(-1, 0), -1);
        due("no wish", x.comes(0, 10), -1);
        due("no wish", x.comes(0, -1), -1);
        due("no wish, before nothing held", x.comes(1, 10), -1);
        due("nothing", x.comes(1, 0), -11);
        x.row(1, 0, 1);
        due("a row", x.comes(1, 0), -12);
        for (int g = 1; g < 7; g++) {
            due("one more", x.comes(0, 0), g);
        }
        due("no room", x.comes(0, 0), -2);
        due("a row, before no room", x.comes(1, 0), -12);
        due("nobody more", x.count(0), 7);
        due("all there", x.count(4), 127);
    }

    private static void promise6() {
        ServesWhatOneDreamt x = Check.inn("g003;g004;");
        due("wishes(1, 9)", x.wishes(1, 9), 4);
        due("wishes(1, 0)", x.wishes(1, 0), 9);
        due("the other's", x.guest(0, 2), 3);
        due("his", x.guest(1, 2), 0);
        due("wishes(1, 10)", x.wishes(1, 10), -1);
        due("wishes(1, -1)", x.wishes(1, -1), -1);
        due("wishes(2, 0)", x.wishes(2, 0), -1);
        due("wishes(-1, 0)", x.wishes(-1, 0), -1);
        due("unchanged", x.guest(1, 2), 0);
    }

    private static void promise7() {
        ServesWhatOneDreamt x = Check.inn("g330;g000;");
        due("heals(0, 99)", x.heals(0, 99), 50);
        due("heals(0, 1)", x.heals(0, 1), 99);
        due("his", x.guest(0, 4), 1);
        due("the other's", x.guest(1, 4), 50);
        due("heals(0, 0)", x.heals(0, 0), -1);
        due("heals(0, 100)", x.heals(0, 100), -1);
        due("heals(2, 5)", x.heals(2, 5), -1);
        due("heals(-1, 5)", x.heals(-1, 5), -1);
        x.nights(1);
        due("gone", x.heals(0, 5), -3);
        due("out of range, before gone", x.heals(0, 0), -1);
        due("stays at 0", x.guest(0, 4), 0);
        due("stays gone", x.guest(0, 5), 0);
    }

    private static void promise9() {
        ServesWhatOneDreamt x = Check.inn("g004;g004;h103;l401;");
        due("the first is served, the other lacks and goes", x.nights(1), 1);
        due("served", x.count(2), 1);
        due("lacking", x.count(3), 1);
        due("night", x.count(1), 1);
        due("there", x.count(4), 1);
        due("the first's health", x.guest(0, 4), 52);
        due("the first's last plate", x.guest(0, 3), 4);
        due("the other's health", x.guest(1, 4), 0);
        due("the other's last plate", x.guest(1, 3), 0);
        due("the other is gone", x.guest(1, 5), 0);
        due("the plate", x.larder(4), 0);
        due("plate 1 was filled up", x.larder(1), 7);
        due("nights(3)", x.nights(3), 1);
        due("lacking twice, then 2 plates, one eaten", x.larder(4), 1);
        due("one who is gone lacks nothing", x.count(3), 3);
        due("no gain from the last plate", x.guest(0, 4), 46);
        due("nights(0)", x.nights(0), -1);
        due("nights(61)", x.nights(61), -1);
        due("nights(-1)", x.nights(-1), -1);
        due("still", x.count(1), 4);
    }

    /** One kind alone: health behind each of some nights. */
    private static void healths(String text, int... wanted) {
        ServesWhatOneDreamt x = Check.inn(text);
        for (int n = 0; n < wanted.length; n++) {
            x.nights(1);
            due(text + " behind " + (n + 1), x.guest(0, 4), wanted[n]);
        }
    }

    private static void promise9Kinds() {
        healths("g004;", 52, 52, 52, 52, 52, 52, 52, 49, 46);
        healths("g104;", 51, 52, 53, 54, 55, 56, 57, 54);
        healths("g205;", 53, 56, 60, 64, 64, 64, 65, 66, 68, 70);
        healths("g302;", 45, 52, 47, 54, 49, 56);
        healths("g312;", 45, 40, 47, 42, 37, 44);
        healths("g402;", 51, 52, 53, 54, 55, 52);
        healths("g510;", 48, 47, 47, 48, 45, 43, 42, 42, 43);
        healths("g695;", 59, 68, 77, 86, 95, 92, 89, 86, 95, 99, 96);
        healths("g713;", 45, 53, 58, 63, 58, 63, 58, 55);
        ServesWhatOneDreamt x = Check.inn("g205;l602;");
        x.nights(1);
        due("two are enough for a bride", x.larder(6), 0);
        x = Check.inn("g205;l601;");
        x.nights(1);
        due("one is not", x.larder(6), 1);
        due("she lacks", x.guest(0, 4), 47);
        due("lacking", x.count(3), 1);
        x = Check.inn("g510;h002;");
        due("what he eats makes a child go", x.nights(1), 0);
        due("his last plate", x.guest(0, 3), 2);
        due("he was served", x.count(2), 1);
        due("his health", x.guest(0, 4), 0);
        x = Check.inn("g300;h006;");
        due("6 is enough for a night without a dream", x.nights(1), 1);
        due("1 is left", x.guest(0, 4), 1);
        due("neither served", x.count(2), 0);
        due("nor lacking", x.count(3), 0);
    }

    private static void promise9Edges() {
        ServesWhatOneDreamt x = new ServesWhatOneDreamt();
        for (int i = 0; i < 16; i++) {
            due("nights(60)", x.nights(60), 0);
        }
        due("nights(40)", x.nights(40), -3);
        due("nights(61), before above 999", x.nights(61), -1);
        due("night", x.count(1), 960);
        due("nights(39)", x.nights(39), 0);
        due("night", x.count(1), 999);
        due("nights(1)", x.nights(1), -3);
        due("plates", x.larder(5), 99);
    }
}
