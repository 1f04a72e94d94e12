/** Promises 22 to 26: what kind one is, what he wished, two who say it or not, nightmares, the mean. */
public final class KindPromisesTest {
    private static final Check CHECK = new Check();
    private static final long REFUSED = 1000000001L;

    public static void main(String[] args) {
        promise22();
        promise22Figures();
        promise22Refusals();
        promise23();
        promise24();
        promise25();
        promise25Refusals();
        promise26();
        CHECK.end("KindPromisesTest");
    }

    private static void due(String call, long got, long want) {
        CHECK.due(call, got, want);
    }

    private static int whatIs(ServesWhatOneDreamt x, int g, int what, int sort, int... healths) {
        Check.write(x, 2, sort, healths);
        return x.whatIs(2, g, what);
    }

    private static int whatWish(ServesWhatOneDreamt x, int g, int sort, int... plates) {
        Check.write(x, 2, sort, plates);
        return x.whatWish(2, g);
    }

    private static void promise22() {
        // Behind 1 night: 52, 51, 52, 45, 51, 47, 50, 45 by kinds; behind 2: 52, 52, 55, 50, 52, 45, 50, 53.
        ServesWhatOneDreamt x = Check.inn("g004;");
        due("an empty row", whatIs(x, 0, 0, 0), 255);
        due("50", whatIs(x, 0, 0, 0, 50), 255);
        due("51", whatIs(x, 0, 0, 0, 51), 0);
        due("50, 52", whatIs(x, 0, 0, 0, 50, 52), 5);
        due("50, 52, 52", whatIs(x, 0, 0, 0, 50, 52, 52), 1);
        due("50, 51", whatIs(x, 0, 0, 0, 50, 51), 18);
        due("50, 45", whatIs(x, 0, 0, 0, 50, 45), 136);
        due("50, 47", whatIs(x, 0, 0, 0, 50, 47), 32);
        due("50, 50", whatIs(x, 0, 0, 0, 50, 50), 64);
        due("50, -, 52", whatIs(x, 0, 0, 0, 50, -128, 52), 19);
        due("-, 52", whatIs(x, 0, 0, 0, -128, 52), 5);
        due("shorts skip their own least", whatIs(x, 0, 0, 1, -32768, 52), 5);
        due("ints skip their own least", whatIs(x, 0, 0, 2, Integer.MIN_VALUE, 52), 5);
        due("shorts do not skip that of bytes", whatIs(x, 0, 0, 1, -128, 52), 0);
        due("ints do not skip that of shorts", whatIs(x, 0, 0, 2, -32768, 52), 0);
        due("only in mind", x.guest(0, 0), 0);
        x.row(2, 0, 100);
        for (int i = 0; i < 99; i++) {
            x.put(2, i, -128);
        }
        due("a row of 100: gone behind 99 nights", x.whatIs(2, 0, 0) & 1, 1);
        x = Check.inn("g104;g004;l400;");
        due("the second", whatIs(x, 1, 0, 0, 50, 47), 33);
        due("his own figure", whatIs(x, 0, 1, 0, 50, 51), 1023);
    }

    private static void promise22Figures() {
        ServesWhatOneDreamt x = Check.inn("g644;");
        due("a widower's", whatIs(x, 0, 1, 0, 50, 54), 16);
        due("a widower's", whatIs(x, 0, 1, 0, 50, 59), 512);
        due("kinds with his own figure", whatIs(x, 0, 0, 0, 50, 54), 64);
        due("an empty row", whatIs(x, 0, 1, 0), 1023);
        due("none", whatIs(x, 0, 1, 0, 49), 0);
        due("only in mind", x.guest(0, 1), 4);
        x = Check.inn("g310;");
        due("a cook's first night", whatIs(x, 0, 1, 0, 50, 45), 1023);
        due("a cook's second night", whatIs(x, 0, 1, 0, 50, 45, 40), 1022);
        due("a cook's second night", whatIs(x, 0, 1, 0, 50, 45, 54), 1);
    }

    private static void promise22Refusals() {
        ServesWhatOneDreamt x = Check.inn("g004;");
        due("nothing", x.whatIs(0, 0, 0), -11);
        x.keep(0, 1, 0, 0);
        due("a kind", x.whatIs(0, 0, 0), -12);
        due("no guest, before a kind", x.whatIs(0, 1, 0), -1);
        due("no what, before nothing", x.whatIs(1, 0, 2), -1);
        due("no what", x.whatIs(1, 0, -1), -1);
        due("no guest", x.whatIs(1, -1, 0), -1);
        due("no shelf", x.whatIs(8, 0, 0), -1);
        due("no shelf", x.whatIs(-1, 0, 0), -1);
    }

    private static void promise23() {
        ServesWhatOneDreamt x = Check.inn("g004;");
        due("7", whatWish(x, 0, 0, 7), 128);
        due("0", whatWish(x, 0, 0, 0), 1);
        due("an empty row", whatWish(x, 0, 0), 1023);
        due("-, 9", whatWish(x, 0, 0, -128, 9), 512);
        due("- of shorts", whatWish(x, 0, 1, -32768), 1023);
        due("- of ints", whatWish(x, 0, 2, Integer.MIN_VALUE), 1023);
        due("not - of ints", whatWish(x, 0, 2, -128), 0);
        due("4, 5", whatWish(x, 0, 0, 4, 5), 0);
        due("only in mind", x.guest(0, 2), 4);
        x.fills(3, 0);
        x.fills(6, 0);
        due("who lacks keeps his last plate", whatWish(x, 0, 0, 0), 73);
        x = Check.inn("g300;g100;");
        due("a cook's second night", whatWish(x, 0, 0, 0, 3), 8);
        due("a plain one eats 1 by all", whatWish(x, 1, 0, 1, 1), 1023);
        due("no guest", x.whatWish(2, 2), -1);
        due("no guest", x.whatWish(2, -1), -1);
        due("no shelf", x.whatWish(8, 0), -1);
        due("no shelf", x.whatWish(-1, 0), -1);
        due("nothing", x.whatWish(0, 0), -11);
        due("no guest, before nothing", x.whatWish(0, 7), -1);
        x.keep(0, 1, 0, 0);
        due("a kind", x.whatWish(0, 0), -12);
    }

    private static void promise24() {
        ServesWhatOneDreamt x = Check.inn("g004;g005;g310;");
        due("both tell: not telling costs 2", x.two(0, 1, 1), 11);
        due("a cook who dreams nothing says 1 and eats that", x.two(2, 1, 1), 1);
        due("the other way round", x.two(1, 2, 1), 10);
        due("one twice", x.two(1, 1, 1), -1);
        due("no such", x.two(3, 1, 1), -1);
        due("no such", x.two(1, 3, 1), -1);
        due("no such", x.two(-1, 1, 1), -1);
        due("no night", x.two(0, 1, 0), -1);
        due("31 nights", x.two(0, 1, 31), -1);
        due("30 nights", x.two(0, 1, 30) >= 0 ? 1 : 0, 1);
        due("only in mind", x.count(1), 0);
        x.heals(2, 5);
        x.nights(1);
        due("gone", x.two(2, 1, 1), -3);
        due("gone", x.two(1, 2, 1), -3);
        due("one twice, before gone", x.two(2, 2, 1), -1);
        due("no night, before gone", x.two(2, 1, 0), -1);
        // In night 2 the cook has 7 of 2 and 8 of 1, the guest 0 of 5 and 2 of 1.
        x = Check.inn("g302;g005;d01;");
        due("2 less for not telling", x.two(0, 1, 1), 10);
        due("2 less for not telling", x.two(1, 0, 1), 1);
        // Widowers: 48, 50 | 52, 48 | 50, 46 | 50, 48 if they say 01, 00, 11, 10: none stays.
        x = Check.inn("g611;g615;");
        due("no pair", x.two(0, 1, 4), -4);
        x = Check.inn("g004;g004;");
        due("neither tells", x.two(0, 1, 5), 0);
    }

    private static void mares(ServesWhatOneDreamt x, int n, int t, int v, long above, long below) {
        due("mares(0, " + n + ", " + t + ", " + v + ", 0)", x.mares(0, n, t, v, 0), above);
        due("mares(0, " + n + ", " + t + ", " + v + ", 1)", x.mares(0, n, t, v, 1), below);
    }

    private static void promise25() {
        ServesWhatOneDreamt x = Check.inn("g004;");
        mares(x, 0, 3, 50, 1, 1);
        mares(x, 0, 3, 51, 0, 1);
        mares(x, 0, 3, 0, 1, 1);
        mares(x, 1, 3, 52, 1, 1);
        mares(x, 2, 3, 54, 4, 9);
        mares(x, 2, 2, 54, 1, 2);
        mares(x, 2, 2, 52, 1, 1);
        mares(x, 2, 2, 55, 0, 1);
        mares(x, 7, 20, 99, 0, 1);
        due("only in mind", x.count(1), 0);
        // Who eats 0 lacks in every mare without a 7: only a calm time gives 57.
        x = Check.inn("g404;l099;l700;");
        mares(x, 7, 20, 57, 47045881L, 64000000L);
        mares(x, 1, 20, 51, 19, 20);
        mares(x, 1, 20, 47, 1, 1);
        x = Check.inn("g404;d08;l099;l700;h050;");
        mares(x, 7, 20, 57, 893871739L, 1280000000L);
        x = Check.inn("g304;l700;");
        mares(x, 1, 2, 45, 1, 1);
        mares(x, 1, 2, 46, 0, 1);
        x = Check.inn("g304;h005;d01;");
        mares(x, 3, 2, 0, 1, 1);
        mares(x, 3, 2, 1, 0, 1);
    }

    private static void promise25Refusals() {
        ServesWhatOneDreamt x = Check.inn("g004;");
        due("no guest", x.mares(1, 1, 2, 0, 0), REFUSED);
        due("no guest", x.mares(-1, 1, 2, 0, 0), REFUSED);
        due("-1 nights", x.mares(0, -1, 2, 0, 0), REFUSED);
        due("8 nights", x.mares(0, 8, 2, 0, 0), REFUSED);
        due("1 in 1", x.mares(0, 1, 1, 0, 0), REFUSED);
        due("1 in 21", x.mares(0, 1, 21, 0, 0), REFUSED);
        due("v -1", x.mares(0, 1, 2, -1, 0), REFUSED);
        due("v 100", x.mares(0, 1, 2, 100, 0), REFUSED);
        due("part -1", x.mares(0, 1, 2, 0, -1), REFUSED);
        due("part 2", x.mares(0, 1, 2, 0, 2), REFUSED);
    }

    private static void promise26() {
        ServesWhatOneDreamt x = new ServesWhatOneDreamt();
        due("nobody, above", x.mean(0), 0);
        due("nobody, below", x.mean(1), 1);
        due("part -1", x.mean(-1), REFUSED);
        due("part 2", x.mean(2), REFUSED);
        Check.tell(x, "g004;g004;h153;");
        due("103 by 2", x.mean(0), 103);
        due("103 by 2", x.mean(1), 2);
        x.heals(1, 60);
        due("55 by 1", x.mean(0), 55);
        due("55 by 1", x.mean(1), 1);
        Check.tell(x, "g000;g000;h002;h162;h299;h351;l400;d01;");
        due("those gone do not count: 59, 99, 51 and less", x.count(4), 14);
        due("above", x.mean(0), 209);
        due("below", x.mean(1), 3);
        x.heals(1, 3);
        x.heals(2, 3);
        x.heals(3, 3);
        Check.tell(x, "l400;l000;d01;");
        due("all are gone, above", x.mean(0), 0);
        due("all are gone, below", x.mean(1), 1);
    }
}
