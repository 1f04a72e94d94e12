/** Promises 27 to 32: told slates, years by seeds, the image, what is told. */
public final class SlatePromisesTest {
    private static final Check CHECK = new Check();

    public static void main(String[] args) {
        promise27();
        promise28();
        slateRefusals();
        promise29();
        promises30And31();
        promise32();
        CHECK.end("SlatePromisesTest");
    }

    private static void due(String call, long got, long want) {
        CHECK.due(call, got, want);
    }

    private static int forged(ServesWhatOneDreamt x, int sort, int... plates) {
        Check.write(x, 3, sort, plates);
        return x.forged(3);
    }

    private static int judge(ServesWhatOneDreamt x, int sort, int... plates) {
        Check.write(x, 3, sort, plates);
        return x.judge(3);
    }

    private static void promise27() {
        ServesWhatOneDreamt x = Check.inn("l109;l999;");
        due("an empty row", forged(x, 0), -4);
        due("all of it", forged(x, 0, 5, 9, 5, 5, 5, 5, 5, 5, 5, 99), -4);
        due("a part of it", forged(x, 1, 5, 9), -4);
        due("no such plate", forged(x, 2, 5, 9, 5, 5, 5, 5, 5, 5, 5, 99, 5), 10);
        due("the first", forged(x, 0, 4, 9), 0);
        due("the last", forged(x, 0, 5, 9, 5, 5, 5, 5, 5, 5, 5, 98), 9);
        due("the first of two", forged(x, 0, 5, 8, 4), 1);
        due("nothing is skipped", forged(x, 0, 5, -128), 1);
        due("nothing is skipped", forged(x, 1, -32768), 0);
        due("nothing is skipped", forged(x, 2, 5, 9, Integer.MIN_VALUE), 2);
    }

    private static void promise28() {
        ServesWhatOneDreamt x = new ServesWhatOneDreamt();
        due("an empty row", judge(x, 0), -4);
        due("50, 52, 54", judge(x, 0, 50, 52, 54), -4);
        due("50, 52, 53", judge(x, 0, 50, 52, 53), 2);
        due("51, 52", judge(x, 0, 51, 52), 0);
        due("50, -, 54", judge(x, 0, 50, -128, 54), -4);
        due("-, 52, 55", judge(x, 1, -32768, 52, 55), 2);
        due("- of ints", judge(x, 2, 50, Integer.MIN_VALUE), -4);
        due("not - of ints", judge(x, 2, 50, -128), 1);
        int[] many = new int[100];
        for (int n = 0; n < many.length; n++) {
            many[n] = 50 + 2 * n;
        }
        due("99 nights on", judge(x, 1, many), -4);
        many[99]++;
        due("99 nights on", judge(x, 1, many), 99);
        due("only in mind", x.count(1), 0);
        x = Check.inn("g205;g004;");
        due("a bride and a guest", judge(x, 0, 50, 49, 48, 47), -4);
        due("a bride and a guest", judge(x, 0, 50, 49, 48, 48), 3);
    }

    private static void slateRefusals() {
        ServesWhatOneDreamt x = new ServesWhatOneDreamt();
        due("forged: no shelf", x.forged(8), -1);
        due("forged: no shelf", x.forged(-1), -1);
        due("forged: nothing", x.forged(0), -11);
        due("judge: no shelf", x.judge(8), -1);
        due("judge: no shelf", x.judge(-1), -1);
        due("judge: nothing", x.judge(0), -11);
        x.keep(0, 1, 0, 0);
        due("forged: a kind", x.forged(0), -12);
        due("judge: a kind", x.judge(0), -12);
    }

    /** By seed 1 the draws are 16838, 5758, 10113, 17515, 31051, 5627, 23010, 7419, 16212, 4086, 2749, .. */
    private static void promise29() {
        // A murderer eats the v of plate 0, and 2 of night 10: v is 5758, 9084, 10311 modulo 6.
        ServesWhatOneDreamt x = Check.inn("g400;");
        due("years(1, 1, 0)", x.years(1, 1, 0), 6);
        due("years(2, 1, 0)", x.years(2, 1, 0), 8);
        due("years(3, 1, 0)", x.years(3, 1, 0), 13);
        due("years(3, 1, 1)", x.years(3, 1, 1), 3);
        due("years(20, 1, 1)", x.years(20, 1, 1), 20);
        due("only in mind", x.guest(0, 2), 0);
        due("only in mind", x.larder(0), 5);
        x.nights(2);
        due("served more", x.years(1, 1, 0), 6);
        // In nights 9 to 20 plate 0 comes twice, the second time in the last of 12 nights.
        x = Check.inn("g400;d08;");
        due("12 nights", x.years(1, 1, 0), 7);
        // A guest's wish is 8, of which there are 4086 modulo 6, none, and 2 of night 8.
        x = Check.inn("g004;");
        due("a guest's wish", x.years(1, 1, 0), 2);
        // One gone draws too: the other's wish is 5758 modulo 10, of which there are 2749 modulo 6.
        x = Check.inn("g300;g004;h005;d01;");
        due("one is gone", x.count(4), 2);
        due("one gone draws, too", x.years(1, 1, 0), 3);
        due("one is there", x.years(1, 1, 1), 1);
        x.heals(1, 3);
        due("he goes in every year", x.years(4, 1, 1), 0);
        x = Check.inn("g400;");
        due("a seed below 0", x.years(1, -1, 0), murdererServed(-1));
        due("the least seed", x.years(1, Integer.MIN_VALUE, 0), murdererServed(Integer.MIN_VALUE));
        due("the greatest seed", x.years(1, Integer.MAX_VALUE, 0), murdererServed(Integer.MAX_VALUE));
        due("no year", x.years(0, 1, 0), -1);
        due("21 years", x.years(21, 1, 0), -1);
        due("no what", x.years(1, 1, 2), -1);
        due("no what", x.years(1, 1, -1), -1);
    }

    private static int murdererServed(int z) {
        int second = (z * 1103515245 + 12345) * 1103515245 + 12345;
        return (int) ((second & 0x7fffffffL) >> 16) % 6 + 2;
    }

    private static void promises30And31() {
        ServesWhatOneDreamt x = Check.inn("g204;g130;d03;");
        due("restore()", x.restore(), -3);
        due("image()", x.image(), 3);
        x.keep(0, 1, 5, 5);
        x.row(1, 0, 4);
        x.comes(0, 7);
        x.wishes(0, 9);
        x.heals(1, 1);
        x.fills(5, 77);
        x.nights(8);
        due("restore()", x.restore(), 3);
        due("guests", x.count(0), 2);
        due("night", x.count(1), 3);
        due("served", x.count(2), 6);
        due("lacking", x.count(3), 0);
        due("there", x.count(4), 3);
        due("plates", x.count(5), 47);
        due("wish", x.guest(0, 2), 4);
        due("health", x.guest(0, 4), 58);
        due("last plate", x.guest(0, 3), 7);
        due("health", x.guest(1, 4), 53);
        due("figure", x.guest(1, 1), 3);
        due("shelves stay as they are", x.cost(0), 4);
        due("shelves stay as they are", Check.element(x, 1, 3), 0);
        x.nights(5);
        due("it is kept", x.restore(), 3);
        due("it is kept", x.guest(0, 4), 58);
        x.wishes(0, 1);
        due("what is changed behind it does not change it", x.restore(), 3);
        due("the wish as it was", x.guest(0, 2), 4);
        x.nights(1);
        due("another image", x.image(), 4);
        x.nights(1);
        due("is that one", x.restore(), 4);
        due("is that one", x.count(1), 4);
    }

    private static void promise32() {
        ServesWhatOneDreamt x = Check.inn("g004;g304;h105;l400;d02;");
        int[] wanted = {2, 2, 0, 2, 1, 49};
        for (int what = 0; what < wanted.length; what++) {
            due("count(" + what + ")", x.count(what), wanted[what]);
        }
        due("count(6)", x.count(6), -1);
        due("count(-1)", x.count(-1), -1);
        x.fills(4, 1);
        x.nights(1);
        due("served", x.count(2), 1);
    }
}
