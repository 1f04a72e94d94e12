import java.util.Arrays;

/** The edges of part II, promises 22 to 32, and of THE IMAGE. Each test bears the sentence that it is about. */
public final class SlateEdgesTest {
    private static final Check CHECK = new Check();
    private static final int[] LEAST = {Byte.MIN_VALUE, Short.MIN_VALUE, Integer.MIN_VALUE};
    private static final long REFUSED = 1000000001L;

    public static void main(String[] args) {
        whatKindByRowsOfAllSizes();
        whatKindSkips();
        whatKindOfOneGone();
        figures();
        whatWishByRowsOfAllSizes();
        whatWishSkips();
        two();
        twoTies();
        twoBelow0();
        twoWithoutAPair();
        nightmaresLeastAndMost();
        nightmaresByThemselves();
        nightmaresInLowestTerms();
        mean();
        forged();
        judged();
        judgedSkips();
        yearsLeastAndMost();
        yearsOfAll();
        drawsWrapAround();
        image();
        imageOfSeven();
        imageOfNobody();
        imageButShelves();
        count();
        CHECK.end("SlateEdgesTest");
    }

    private static void due(String call, long got, long want) {
        CHECK.due(call, got, want);
    }

    /** A row of which all is skipped but the last number. */
    private static int[] lastAlone(int sort, int size, int last) {
        int[] row = new int[size];
        Arrays.fill(row, LEAST[sort]);
        row[size - 1] = last;
        return row;
    }

    private static int whatIs(ServesWhatOneDreamt x, int g, int what, int sort, int... healths) {
        Check.write(x, 2, sort, healths);
        return x.whatIs(2, g, what);
    }

    private static int whatWish(ServesWhatOneDreamt x, int g, int sort, int... plates) {
        Check.write(x, 2, sort, plates);
        return x.whatWish(2, g);
    }

    /** "a ROW tells HEALTH of one behind 0, 1, .. NIGHTS": 0 to 100 elements. */
    private static void whatKindByRowsOfAllSizes() {
        // Behind 99 nights he has 50 as a GUEST or WIDOWER of plate 9, 99 as a BRIDE; others are gone long since.
        for (int night : new int[] {0, 990}) {
            ServesWhatOneDreamt x = Told.inNight(night, "g009;e09;l999;");
            due("none told", whatIs(x, 0, 0, 0), 255);
            due("none told: figures", whatIs(x, 0, 1, 0), 1023);
            due("one told", whatIs(x, 0, 0, 0, 50), 255);
            due("one told that is not so", whatIs(x, 0, 0, 0, 49), 0);
            due("one told that is not so", whatIs(x, 0, 0, 0, 51), 0);
        }
        ServesWhatOneDreamt x = Check.inn("g009;e09;l999;");
        due("100 told: 50", whatIs(x, 0, 0, 0, lastAlone(0, 100, 50)), 65);
        due("100 told: 99", whatIs(x, 0, 0, 0, lastAlone(0, 100, 99)), 4);
        due("100 told: 0", whatIs(x, 0, 0, 0, lastAlone(0, 100, 0)), 186);
        x = Check.inn("g609;l999;");
        due("the last of 51 is behind 50 nights", whatIs(x, 0, 1, 0, lastAlone(0, 51, 50)), 1);
        x = Check.inn("g610;l999;");
        due("the last of 49 is behind 48 nights", whatIs(x, 0, 1, 0, lastAlone(0, 49, 98)), 2);
        due("the last of 50 is behind 49 nights", whatIs(x, 0, 1, 0, lastAlone(0, 50, 98)), 0);
    }

    /** "(the least number of the SORT is skipped)": what is beside it is not. */
    private static void whatKindSkips() {
        ServesWhatOneDreamt x = Check.inn("g004;");
        for (int sort = 0; sort < 3; sort++) {
            due("skipped in sort " + sort, whatIs(x, 0, 0, sort, LEAST[sort]), 255);
            due("skipped twice in sort " + sort, whatIs(x, 0, 1, sort, LEAST[sort], LEAST[sort]), 1023);
            due("1 more in sort " + sort, whatIs(x, 0, 0, sort, LEAST[sort] + 1), 0);
            due("the greatest of sort " + sort, whatIs(x, 0, 0, sort, -(LEAST[sort] + 1)), 0);
            due("not first alone in sort " + sort, whatIs(x, 0, 0, sort, 50, LEAST[sort], 52), 19);
        }
        due("128 is -128 in a byte", whatIs(x, 0, 0, 0, 128), 255);
        due("32768 is -32768 in a short", whatIs(x, 0, 0, 1, 32768), 255);
        due("-32768 is 0 in a byte", whatIs(x, 0, 0, 0, -32768), 0);
        due("306 is 50 in a byte", whatIs(x, 0, 0, 0, 306), 255);
        due("306 is none in a short", whatIs(x, 0, 0, 1, 306), 0);
        due("-128 in shorts", whatIs(x, 0, 0, 1, -128), 0);
        due("-32768 in ints", whatIs(x, 0, 0, 2, -32768), 0);
    }

    /** One who is GONE has HEALTH 0 by all KINDS and FIGURES. */
    private static void whatKindOfOneGone() {
        ServesWhatOneDreamt x = Check.inn("g300;h005;d01;");
        due("0, 0", whatIs(x, 0, 0, 0, 0, 0), 255);
        due("0, 0: figures", whatIs(x, 0, 1, 0, 0, 0), 1023);
        due("0, 1", whatIs(x, 0, 0, 0, 0, 1), 0);
        due("nobody else", whatIs(x, 1, 0, 0, 0), -1);
    }

    /** "FIGURES (bits 0 .. 9)". */
    private static void figures() {
        ServesWhatOneDreamt x = Check.inn("g634;");
        due("0", whatIs(x, 0, 1, 0, 50, 50), 1);
        due("9", whatIs(x, 0, 1, 0, 50, 59), 512);
        due("10", whatIs(x, 0, 1, 0, 50, 60), 0);
        due("-1", whatIs(x, 0, 1, 0, 50, 49), 0);
        x.heals(0, 95);
        due("99 by 4 and more", whatIs(x, 0, 1, 0, 95, 99), 1008);
        due("his figure is as it was", x.guest(0, 1), 3);
        due("his kind is as it was", x.guest(0, 0), 6);
    }

    /** "a ROW tells LAST PLATES of one behind 1, 2, .. NIGHTS": 0 to 100 elements. */
    private static void whatWishByRowsOfAllSizes() {
        for (int night : new int[] {0, 990}) {
            ServesWhatOneDreamt x = Told.inNight(night, "g204;");
            due("none told", whatWish(x, 0, 0), 1023);
            due("one told", whatWish(x, 0, 0, 1), 1);
            due("one told", whatWish(x, 0, 0, 0), 512);
            due("one told that can't be", whatWish(x, 0, 0, 10), 0);
            due("one told that can't be", whatWish(x, 0, 0, -1), 0);
            due("two told", whatWish(x, 0, 0, 9, 0), 256);
            due("two told that can't be", whatWish(x, 0, 0, 9, 9), 0);
            due("behind 99 nights", whatWish(x, 0, 0, lastAlone(0, 99, 3)), 16);
            due("behind 100 nights", whatWish(x, 0, 0, lastAlone(0, 100, 3)), 8);
        }
    }

    /** "(skipped likewise)". */
    private static void whatWishSkips() {
        ServesWhatOneDreamt x = Check.inn("g004;");
        for (int sort = 0; sort < 3; sort++) {
            due("skipped in sort " + sort, whatWish(x, 0, sort, LEAST[sort]), 1023);
            due("1 more in sort " + sort, whatWish(x, 0, sort, LEAST[sort] + 1), 0);
            due("skipped behind one in sort " + sort, whatWish(x, 0, sort, 9, LEAST[sort]), 512);
            due("skipped ahead of one in sort " + sort, whatWish(x, 0, sort, LEAST[sort], 0), 1);
        }
        due("-128 in shorts", whatWish(x, 0, 1, -128), 0);
        due("-32768 in ints", whatWish(x, 0, 2, -32768), 0);
        due("256 is 0 in a byte", whatWish(x, 0, 0, 256), 1);
        due("nobody else", whatWish(x, 1, 0), -1);
        x = Check.inn("g300;h005;e07;d01;");
        due("one gone: 7 by all", whatWish(x, 0, 0, 7, 7), 1023);
        due("one gone: 0 by none", whatWish(x, 0, 0, 0), 0);
    }

    /** "TWO GUESTS THERE, .. behind n NIGHTS (1 .. 30)", "-1 (one twice), -3 either is GONE". */
    private static void two() {
        // To say PLATE 1 is what a plain one dreams: it only costs 2.
        ServesWhatOneDreamt x = Check.inn("g100;g100;g300;h205;");
        due("1 night", x.two(0, 1, 1), 11);
        due("30 nights", x.two(0, 1, 30), 11);
        due("0 nights", x.two(0, 1, 0), -1);
        due("31 nights", x.two(0, 1, 31), -1);
        due("one twice", x.two(0, 0, 1), -1);
        due("a third", x.two(0, 3, 1), -1);
        due("a third", x.two(3, 0, 1), -1);
        due("-1", x.two(0, -1, 1), -1);
        x.nights(1);
        due("the other is gone", x.two(0, 2, 1), -3);
        due("the one is gone", x.two(2, 0, 1), -3);
        due("one gone twice", x.two(2, 2, 1), -1);
        due("gone, and 31 nights", x.two(2, 0, 31), -1);
        due("gone, and nobody", x.two(2, 3, 1), -1);
        due("neither is gone", x.two(1, 0, 30), 11);
        x = Told.inNight(999, "g100;g100;");
        due("beyond night 999", x.two(0, 1, 30), 11);
        x = Check.inn("g100;g100;g100;g100;g100;g100;g100;");
        due("the last two", x.two(5, 6, 1), 11);
    }

    /** "2 less for not telling: the first pair .. by which neither has more by another choice alone": alike is not more. */
    private static void twoTies() {
        // In night 2 a traveller has 5 of his last plate 3, and 7 of 1 less 2.
        ServesWhatOneDreamt x = Told.inNight(1, "g700;g700;g100;e03;e13;");
        due("all pairs do", x.two(0, 1, 1), 0);
        due("the plain one tells", x.two(0, 2, 1), 1);
        due("the plain one tells", x.two(2, 0, 1), 10);
        // With last plate 2 he has 6, with 4 but 4.
        Check.tell(x, "e02;e14;");
        due("the one tells, the other does not", x.two(0, 1, 1), 10);
        due("the other way round", x.two(1, 0, 1), 1);
        // A cook who dreams nothing has 5 less by telling, and 8 less 2 by saying PLATE 1.
        x = Check.inn("g310;g310;");
        due("neither tells", x.two(0, 1, 1), 0);
        x.fills(1, 0);
        due("there are 2 for them", x.two(0, 1, 1), 0);
    }

    /** "2 less for not telling": less than the 0 of one GONE, too. */
    private static void twoBelow0() {
        ServesWhatOneDreamt x = Check.inn("g500;g500;h003;h103;");
        due("both are gone by plate 1, told or not", x.two(0, 1, 1), 11);
        x = Check.inn("g500;g500;h003;h103;l100;");
        due("there are 2 of it", x.two(0, 1, 30), 11);
    }

    /** "-4": no such pair. */
    private static void twoWithoutAPair() {
        // 48, 50 | 52, 48 | 50, 46 | 50, 48 by 01, 00, 11, 10.
        ServesWhatOneDreamt x = Check.inn("g611;g615;");
        due("4 nights", x.two(0, 1, 4), -4);
    }

    private static void mares(ServesWhatOneDreamt x, int n, int t, int v, long above, long below) {
        due("mares(0, " + n + ", " + t + ", " + v + ", 0)", x.mares(0, n, t, v, 0), above);
        due("mares(0, " + n + ", " + t + ", " + v + ", 1)", x.mares(0, n, t, v, 1), below);
    }

    /** "in each of n NIGHTS (0 .. 7) .. odds 1 in t (2 .. 20): how likely one has HEALTH v (0 .. 99) or more". */
    private static void nightmaresLeastAndMost() {
        ServesWhatOneDreamt x = Check.inn("g604;l999;l799;");
        mares(x, 0, 2, 50, 1, 1);
        mares(x, 0, 20, 51, 0, 1);
        mares(x, 7, 20, 50, 1, 1);
        mares(x, 7, 2, 51, 0, 1);
        mares(x, 7, 2, 0, 1, 1);
        mares(x, 7, 2, 99, 0, 1);
        x.heals(0, 99);
        mares(x, 7, 20, 99, 1, 1);
        int[][] beyond = {{-1, 2, 0}, {8, 2, 0}, {1, 1, 0}, {1, 21, 0}, {1, 0, 0}, {1, -1, 0}, {1, 2, -1}, {1, 2, 100}};
        for (int[] a : beyond) {
            mares(x, a[0], a[1], a[2], REFUSED, REFUSED);
        }
        due("part 2", x.mares(0, 0, 2, 0, 2), REFUSED);
        due("part -1", x.mares(0, 0, 2, 0, -1), REFUSED);
        due("nobody", x.mares(1, 0, 2, 0, 0), REFUSED);
        due("-1", x.mares(-1, 0, 2, 0, 0), REFUSED);
        x = Told.inNight(999, "g604;l900;");
        mares(x, 1, 2, 48, 1, 2);
    }

    /** "by itself, all DREAM of 7 instead of what they would (nothing: nothing)". */
    private static void nightmaresByThemselves() {
        // Without a 9 a widower lacks in each night that has no mare.
        ServesWhatOneDreamt x = Check.inn("g604;l900;l799;");
        mares(x, 1, 20, 47, 1, 1);
        mares(x, 1, 20, 48, 1, 20);
        mares(x, 1, 20, 50, 1, 20);
        mares(x, 7, 20, 50, 1, 1280000000L);
        mares(x, 7, 2, 50, 1, 128);
        mares(x, 2, 3, 47, 5, 9);
        Check.tell(x, "g700;");
        due("the second dreams nothing", x.mares(1, 1, 2, 45, 0), 1);
        due("the second dreams nothing", x.mares(1, 1, 2, 46, 0), 0);
        x = Check.inn("g004;g004;l701;");
        due("the first has the 7", x.mares(0, 1, 2, 52, 1), 1);
        due("the second lacks it", x.mares(1, 1, 2, 52, 0), 1);
        due("the second lacks it", x.mares(1, 1, 2, 52, 1), 2);
        x = Check.inn("g300;h005;d01;");
        mares(x, 7, 2, 0, 1, 1);
        mares(x, 7, 2, 1, 0, 1);
    }

    /** "a fraction": in lowest terms, 0 by 1 and 1 by 1 too. */
    private static void nightmaresInLowestTerms() {
        ServesWhatOneDreamt x = Check.inn("g604;l900;");
        mares(x, 2, 2, 47, 3, 4);
        mares(x, 2, 4, 47, 7, 16);
        mares(x, 3, 2, 47, 1, 2);
        mares(x, 3, 4, 47, 5, 32);
        mares(x, 3, 2, 51, 0, 1);
        mares(x, 3, 2, 41, 1, 1);
    }

    /** "MEAN HEALTH of those THERE: a fraction (0 by 1 of none)". */
    private static void mean() {
        ServesWhatOneDreamt x = new ServesWhatOneDreamt();
        due("none, above", x.mean(0), 0);
        due("none, below", x.mean(1), 1);
        due("part 2", x.mean(2), REFUSED);
        due("part -1", x.mean(-1), REFUSED);
        x = Check.inn("g300;h005;d01;");
        due("all gone, above", x.mean(0), 0);
        due("all gone, below", x.mean(1), 1);
        x = Check.inn("g300;g300;h005;h199;d01;");
        due("one there, above", x.mean(0), 94);
        due("one there, below", x.mean(1), 1);
        x = Check.inn("g000;g000;g000;g000;g000;g000;g000;h001;");
        due("seven, above", x.mean(0), 43);
        due("seven, below", x.mean(1), 1);
        x.heals(6, 99);
        due("350 by 7", x.mean(0), 50);
        due("350 by 7", x.mean(1), 1);
        x.heals(0, 2);
        due("351 by 7", x.mean(0), 351);
        due("351 by 7", x.mean(1), 7);
    }

    /** "FORGED: a ROW tells how many there are of PLATES 0, 1, ..: the first that is not so (no such PLATE, too); -4". */
    private static void forged() {
        ServesWhatOneDreamt x = Check.inn("l000;l999;");
        int[] whole = {0, 5, 5, 5, 5, 5, 5, 5, 5, 99};
        for (int sort = 0; sort < 3; sort++) {
            for (int size : new int[] {0, 1, 9, 10}) {
                Check.write(x, 3, sort, Arrays.copyOf(whole, size));
                due("so, " + size + " of sort " + sort, x.forged(3), -4);
            }
            for (int size : new int[] {11, 100}) {
                Check.write(x, 3, sort, Arrays.copyOf(whole, size));
                due("no such plate, " + size + " of sort " + sort, x.forged(3), 10);
            }
        }
        Check.write(x, 3, 0, 256, 5, 261);
        due("their lowest bits are so", x.forged(3), -4);
        Check.write(x, 3, 1, 0, 261);
        due("those of shorts are not", x.forged(3), 1);
        Check.write(x, 3, 0, -128);
        due("nothing is skipped", x.forged(3), 0);
        Check.write(x, 3, 0, 0, 5, 4, 4);
        due("the first of two", x.forged(3), 2);
        Check.write(x, 3, 0, 0, 5, 5, 5, 5, 5, 5, 5, 5, 98, 0);
        due("plate 9, before no such plate", x.forged(3), 9);
    }

    /** "JUDGED: .. how many PLATES there are in all behind 0, 1, .. NIGHTS: the first that is not so ..; -4". */
    private static void judged() {
        for (int night : new int[] {0, 999}) {
            ServesWhatOneDreamt x = Told.inNight(night, "l003;l103;l203;l303;l403;l503;l603;l703;l803;l903;");
            int[] row = new int[100];
            for (int i = 0; i < row.length; i++) {
                row[i] = 30 + 2 * i;
            }
            for (int size : new int[] {0, 1, 2, 100}) {
                Check.write(x, 3, 1, Arrays.copyOf(row, size));
                due(size + " so", x.judge(3), -4);
            }
            x.put(3, 99, 227);
            due("the last is not so", x.judge(3), 99);
            x.put(3, 1, 33);
            due("the first of two", x.judge(3), 1);
            x.put(3, 0, 29);
            due("the first of three", x.judge(3), 0);
        }
        ServesWhatOneDreamt x = Told.stocked(99, "");
        Check.write(x, 3, 1, 990, 990, 990);
        due("99 of each at most", x.judge(3), -4);
        Check.write(x, 3, 0, 990);
        due("990 keeps but its lowest bits", x.judge(3), 0);
        x = Told.stocked(0, "");
        Check.write(x, 3, 2, 0, 2, 4);
        due("none at first", x.judge(3), -4);
    }

    /** "(skipped likewise)". */
    private static void judgedSkips() {
        ServesWhatOneDreamt x = new ServesWhatOneDreamt();
        for (int sort = 0; sort < 3; sort++) {
            Check.write(x, 3, sort, LEAST[sort], 52, LEAST[sort], 56, LEAST[sort]);
            due("skipped in sort " + sort, x.judge(3), -4);
            Check.write(x, 3, sort, 50, LEAST[sort], 55);
            due("skipped ahead of one not so, sort " + sort, x.judge(3), 2);
            Check.write(x, 3, sort, 50, LEAST[sort] + 1);
            due("1 more in sort " + sort, x.judge(3), 1);
        }
        Check.write(x, 3, 1, -128);
        due("-128 in shorts", x.judge(3), 0);
        Check.write(x, 3, 2, -32768);
        due("-32768 in ints", x.judge(3), 0);
    }

    /** "YEARS with a seed z: n (1 .. 20), each from now". */
    private static void yearsLeastAndMost() {
        ServesWhatOneDreamt x = new ServesWhatOneDreamt();
        for (int z : new int[] {0, 1, -1, Integer.MIN_VALUE, Integer.MAX_VALUE}) {
            due("nobody, 1 year", x.years(1, z, 0), 0);
            due("nobody, 20 years", x.years(20, z, 1), 0);
            due("0 years", x.years(0, z, 0), -1);
            due("21 years", x.years(21, z, 0), -1);
            due("-1 years", x.years(-1, z, 1), -1);
            due("what 2", x.years(1, z, 2), -1);
            due("what -1", x.years(1, z, -1), -1);
        }
        for (int night : new int[] {0, 990}) {
            x = Told.inNight(night, "g600;h099;");
            due("there in 20 years", x.years(20, 7, 1), 20);
            due("from night " + night + " on there is no longer year", x.count(1), night);
            due("his wish is as it was", x.guest(0, 2), 0);
        }
        x = Check.inn("g300;h005;d01;");
        due("gone in 20 years", x.years(20, 7, 1), 0);
        due("gone in 20 years", x.years(20, 7, 0), 0);
    }

    /** "WISH of each, by numbers, a DRAW below 10, then PLATES 0 .. 9 a DRAW below 6 each; then 12 NIGHTS". */
    private static void yearsOfAll() {
        // Behind seven wishes the plates' draws are 7419, 16212, ..: none of 1, and 2 come in nights 1 and 11.
        ServesWhatOneDreamt x = Check.inn("g100;g100;g100;g100;g100;g100;g100;");
        due("served", x.years(1, 1, 0), 4);
        due("there", x.years(1, 1, 1), 7);
        for (int g = 0; g < 7; g++) {
            x.heals(g, 37);
        }
        due("5 lack 12 times: 1 is left to each", x.years(1, 1, 1), 7);
        for (int g = 0; g < 7; g++) {
            x.heals(g, 36);
        }
        due("in the 12th night those 5 are gone", x.years(1, 1, 1), 2);
    }

    private static int draw(int z) {
        return (int) ((z & 0xffffffffL) % 0x80000000L / 65536);
    }

    /** "z becomes z times 1103515245 and 12345 (an int); (z without its sign's bit by 65536, cut) modulo n." */
    private static void drawsWrapAround() {
        // A murderer eats what is drawn second, and 2 of night 10.
        ServesWhatOneDreamt x = Check.inn("g404;");
        int[] seeds = {0, 1, -1, 2, 3, 6, 8, 65535, 65536, 1 << 30, Integer.MIN_VALUE, Integer.MAX_VALUE, Integer.MIN_VALUE + 1};
        for (int z : seeds) {
            int first = z * 1103515245 + 12345;
            int second = first * 1103515245 + 12345;
            due("years(1, " + z + ", 0)", x.years(1, z, 0), draw(second) % 6 + 2);
        }
    }

    /** "THE IMAGE: all that there is ..; RESTORED all is as it was then." */
    private static void image() {
        for (int night : new int[] {0, 999}) {
            ServesWhatOneDreamt x = Told.inNight(night, "g104;g205;w13;e06;h177;l000;l999;");
            due("none yet", x.restore(), -3);
            due("night", x.count(1), night);
            due("image", x.image(), night);
            long[] then = Told.all(x).stream().mapToLong(Long::longValue).toArray();
            x.wishes(0, 9);
            x.heals(1, 1);
            x.fills(0, 50);
            due("restore", x.restore(), night);
            long[] again = Told.all(x).stream().mapToLong(Long::longValue).toArray();
            due("all is as it was", Arrays.equals(then, again) ? 1 : 0, 1);
            due("restored twice", x.restore(), night);
        }
        ServesWhatOneDreamt x = Check.inn("g300;g009;h006;l900;");
        x.image();
        x.nights(1);
        x.image();
        x.nights(1);
        Check.tell(x, "g300;h005;d01;");
        due("gone, and one more, who dreams nothing", x.count(4), 6);
        due("the later image", x.restore(), 1);
        due("the cook is there", x.count(4), 3);
        due("with health 1", x.guest(0, 4), 1);
        due("one lacked once", x.count(3), 1);
        due("two of them", x.count(0), 2);
        due("no third", x.guest(2, 0), -1);
    }

    /** All of each of seven is kept, and looked at in mind. */
    private static void imageOfSeven() {
        ServesWhatOneDreamt x = Check.inn("g709;g618;g527;g436;g345;g254;g163;" + "e09;e18;e27;e36;e45;e54;e63;");
        Check.tell(x, "h011;h122;h233;h344;h455;h566;h677;");
        for (int g = 0; g < 7; g++) {
            due("last plate in mind of " + g, x.guestThen(g, 0, 1), 9 - g);
            due("health in mind of " + g, x.guestThen(g, 0, 0), 11 * (g + 1));
        }
        x.image();
        Check.tell(x, "h099;h199;h299;h399;h499;h599;h699;d05;" + "w00;w10;w20;w30;w40;w50;w60;");
        x.restore();
        int[][] wanted = {{7, 6, 5, 4, 3, 2, 1}, {0, 1, 2, 3, 4, 5, 6}, {9, 8, 7, 6, 5, 4, 3}, {9, 8, 7, 6, 5, 4, 3},
            {11, 22, 33, 44, 55, 66, 77}, {1, 1, 1, 1, 1, 1, 1}};
        for (int what = 0; what < wanted.length; what++) {
            for (int g = 0; g < 7; g++) {
                due("guest(" + g + ", " + what + ") as it was", x.guest(g, what), wanted[what][g]);
            }
        }
    }

    /** The image of an inn without anybody: whoever comes behind it is number 0 again. */
    private static void imageOfNobody() {
        ServesWhatOneDreamt x = new ServesWhatOneDreamt();
        x.keep(0, 1, 6, 9);
        due("image", x.image(), 0);
        for (int g = 0; g < 7; g++) {
            x.comes(0, 0);
        }
        x.nights(60);
        due("restore", x.restore(), 0);
        for (int what = 0; what < 5; what++) {
            due("count(" + what + ")", x.count(what), 0);
        }
        due("plates", x.count(5), 50);
        due("room again", x.comes(0, 3), 0);
        due("health at first", x.guest(0, 4), 50);
        due("last plate at first", x.guest(0, 3), 0);
    }

    /** ".. but SHELVES (and THE IMAGE)". */
    private static void imageButShelves() {
        ServesWhatOneDreamt x = new ServesWhatOneDreamt();
        x.keep(0, 1, 0, 1);
        x.keep(1, 1, 0, 1);
        Check.write(x, 2, 0, 1, 2);
        x.image();
        x.keep(0, 0, 0, 0);
        x.keep(1, 1, 2, 4);
        x.put(2, 1, 9);
        x.row(3, 2, 1);
        x.restore();
        due("nothing still", x.cost(0), -11);
        due("the other kind still", x.cost(1), 7);
        due("the other element still", Check.element(x, 2, 1), 9);
        due("the row still", Check.element(x, 3, 0), 0);
        x.nights(5);
        due("the image is not in the image", x.image(), 5);
        x.nights(5);
        due("the later one", x.restore(), 5);
        due("the later one still", x.restore(), 5);
    }

    /** "0 GUESTS, .. 5 PLATES in all; -1 for others". */
    private static void count() {
        ServesWhatOneDreamt x = Told.inNight(998, "g300;g009;g004;h005;l900;d01;");
        int[] wanted = {3, 999, 2, 0, 6};
        for (int what = 0; what < wanted.length; what++) {
            due("count(" + what + ")", x.count(what), wanted[what]);
        }
        for (int what : new int[] {6, 7, -1, Integer.MIN_VALUE, Integer.MAX_VALUE}) {
            due("count(" + what + ")", x.count(what), -1);
        }
    }
}
