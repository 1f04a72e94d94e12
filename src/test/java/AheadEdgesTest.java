/** The edges of part II, promises 10 to 21: nights on, what is best. Each test bears the sentence that it is about. */
public final class AheadEdgesTest {
    private static final Check CHECK = new Check();

    public static void main(String[] args) {
        guestNightsOn();
        goneNightsOn();
        larderNightsOn();
        tallyNightsOn();
        leaves();
        first();
        out();
        table();
        wishBest();
        buy();
        buyLessThanAsItIs();
        least();
        leastAndMostStock();
        send();
        sendMoreThanAsItIs();
        seats();
        same();
        larderInAll();
        wishedAndTasted();
        CHECK.end("AheadEdgesTest");
    }

    private static void due(String call, long got, long want) {
        CHECK.due(call, got, want);
    }

    private static String seven(String guest) {
        return guest.repeat(7);
    }

    /** "In mind, n NIGHTS on (0 .. 60) (NIGHT may pass 999 there): HEALTH; LAST PLATE". */
    private static void guestNightsOn() {
        for (int night : new int[] {0, 999}) {
            ServesWhatOneDreamt x = Told.inNight(night, "g610;l999;");
            int[] nights = {0, 1, 48, 49, 50, 60};
            int[] healths = {50, 51, 98, 99, 99, 99};
            for (int i = 0; i < nights.length; i++) {
                due("health " + nights[i] + " on from " + night, x.guestThen(0, nights[i], 0), healths[i]);
                due("last plate " + nights[i] + " on", x.guestThen(0, nights[i], 1), i == 0 ? 0 : 9);
            }
            due("61 on", x.guestThen(0, 61, 0), -1);
            due("-1 on", x.guestThen(0, -1, 0), -1);
            due("nobody else", x.guestThen(1, 0, 0), -1);
            due("the night stays", x.count(1), night);
        }
        ServesWhatOneDreamt x = Check.inn(seven("g000;"));
        due("the seventh", x.guestThen(6, 0, 0), 50);
        due("an eighth", x.guestThen(7, 0, 0), -1);
    }

    /** One GONE stays so: HEALTH 0, and the LAST PLATE he ate. */
    private static void goneNightsOn() {
        ServesWhatOneDreamt x = Check.inn("g300;h005;e07;");
        due("0 on", x.guestThen(0, 0, 0), 5);
        due("1 on", x.guestThen(0, 1, 0), 0);
        due("60 on", x.guestThen(0, 60, 0), 0);
        due("his last plate 60 on", x.guestThen(0, 60, 1), 7);
        x.nights(1);
        due("gone now", x.guestThen(0, 0, 0), 0);
        due("gone then", x.guestThen(0, 60, 0), 0);
        due("his last plate", x.guestThen(0, 60, 1), 7);
    }

    /** ".. how many of a PLATE", n NIGHTS on (0 .. 60). */
    private static void larderNightsOn() {
        ServesWhatOneDreamt x = Told.inNight(999, "l000;l999;");
        int[] nights = {0, 1, 10, 11, 50, 51, 60};
        int[] plates = {0, 2, 2, 4, 10, 12, 12};
        for (int i = 0; i < nights.length; i++) {
            due("plate 0, " + nights[i] + " on from 999", x.larderThen(0, nights[i]), plates[i]);
            due("plate 9, 99 at most", x.larderThen(9, nights[i]), 99);
        }
        due("61 on", x.larderThen(0, 61), -1);
        due("-1 on", x.larderThen(0, -1), -1);
        x = new ServesWhatOneDreamt();
        due("59 on from 0", x.larderThen(0, 59), 15);
        due("60 on from 0", x.larderThen(0, 60), 17);
    }

    /** ".. THERE (bits); SERVED; LACKING", n NIGHTS on (0 .. 60). */
    private static void tallyNightsOn() {
        ServesWhatOneDreamt x = new ServesWhatOneDreamt();
        for (int what = 0; what < 3; what++) {
            due("nobody, now", x.then(0, what), 0);
            due("nobody, 60 on", x.then(60, what), 0);
        }
        due("what 3", x.then(0, 3), -1);
        due("what -1", x.then(0, -1), -1);
        x = Check.inn(seven("g000;"));
        due("all there", x.then(0, 0), 127);
        // 99 plates, and 2 in each of five nights more, for two who eat one each: 109 in all.
        x = Check.inn("g100;g100;l199;");
        due("served 0 on", x.then(0, 1), 0);
        due("served 1 on", x.then(1, 1), 2);
        due("lacking 54 on", x.then(54, 2), 0);
        due("lacking 55 on", x.then(55, 2), 1);
        due("served 60 on", x.then(60, 1), 109);
        due("lacking 60 on", x.then(60, 2), 11);
        due("there 60 on", x.then(60, 0), 3);
        due("61 on", x.then(61, 0), -1);
    }

    /** "LEAVES: behind how many NIGHTS (0 .. 60) one is GONE first; -4". */
    private static void leaves() {
        ServesWhatOneDreamt x = Check.inn("g300;g300;g600;h005;h106;l999;");
        due("behind 1", x.leaves(0), 1);
        // 1, then 9 of plate 0: 10, 5, 14, 9, .. up to 34 in night 14, and once more in night 20 and 22.
        due("not behind 1", x.leaves(1), 29);
        due("never", x.leaves(2), -4);
        x.nights(1);
        due("gone now", x.leaves(0), 0);
        due("a fourth", x.leaves(3), -1);
        x = new ServesWhatOneDreamt();
        due("nobody", x.leaves(0), -1);
        x = Check.inn("g004;l415;h099;");
        due("behind 60", x.leaves(0), 60);
        x.nights(1);
        due("behind 59 more", x.leaves(0), 59);
        x = Check.inn("g004;l416;h099;");
        due("behind 61", x.leaves(0), -4);
        x.nights(1);
        due("behind 60 more", x.leaves(0), 60);
        x = Told.inNight(999, "g610;h001;l900;");
        due("in night 1000", x.leaves(0), 1);
    }

    /** "FIRST: who of those THERE, of several the least; -4", "-1 (g below -1, too)". */
    private static void first() {
        ServesWhatOneDreamt x = new ServesWhatOneDreamt();
        due("nobody", x.leaves(-1), -4);
        due("-2", x.leaves(-2), -1);
        due("least", x.leaves(Integer.MIN_VALUE), -1);
        due("greatest", x.leaves(Integer.MAX_VALUE), -1);
        x = Check.inn(seven("g300;") + "h610;h505;");
        due("the sixth", x.leaves(-1), 5);
        x = Check.inn(seven("g300;") + "h605;h505;");
        due("two at once", x.leaves(-1), 5);
        x.nights(1);
        due("two are gone", x.count(4), 31);
        // Of five there are 5 plates in night 2, then 2 in night 10, which the first two have.
        due("the least of three now", x.leaves(-1), 2);
        x = Check.inn("g300;h005;d01;");
        due("all are gone", x.leaves(-1), -4);
        x = Check.inn("g600;l999;");
        due("he stays", x.leaves(-1), -4);
        x = Check.inn("g300;g004;h005;l415;h199;d01;");
        due("behind 59, and the one gone is not asked for", x.leaves(-1), 1);
        x = Check.inn("g004;l415;h099;");
        due("behind 60", x.leaves(-1), 0);
        x = Check.inn("g004;l416;h099;");
        due("behind 61", x.leaves(-1), -4);
    }

    /** "OUT: behind how many NIGHTS (0 .. 60) there is none of a PLATE first; -4". */
    private static void out() {
        ServesWhatOneDreamt x = Check.inn("g100;l148;l000;l901;");
        due("behind 60", x.out(1), 60);
        due("none now, though 2 come", x.out(0), 0);
        due("never", x.out(9), -4);
        x.fills(1, 49);
        due("behind 61", x.out(1), -4);
        x.fills(1, 0);
        due("none now, though 2 come in the next night", x.out(1), 0);
        due("plate 10", x.out(10), -1);
        due("plate -1", x.out(-1), -1);
        // In night 2, 12, .. 2 come, and the bride eats 2.
        x = Check.inn("g200;g004;l200;d01;");
        due("2 come and 2 are eaten", x.larderThen(2, 1), 0);
        x.fills(2, 1);
        due("1 is left every time", x.out(2), -4);
        // From night 5 on 2 come six times in 60 nights, the last time in night 61.
        x = Told.inNight(5, "g100;l148;");
        due("behind 60, in night 65", x.out(1), 60);
        x.fills(1, 49);
        due("behind 61, in night 66", x.out(1), -4);
        x.nights(1);
        due("behind 60 more", x.out(1), 60);
        x = Told.inNight(999, "g004;l401;");
        due("in night 1000", x.out(4), 1);
    }

    /** "TABLE: .. what one DREAMS (-4 nothing, GONE); whether he is SERVED (1, 0)". */
    private static void table() {
        ServesWhatOneDreamt x = Check.inn("g300;g100;l100;g009;l900;");
        due("nothing", x.table(0, 0), -4);
        due("nothing is not served", x.table(0, 1), 0);
        due("what comes in that night is served", x.table(1, 1), 1);
        due("what lacks is dreamt", x.table(2, 0), 9);
        due("what lacks is not served", x.table(2, 1), 0);
        x.heals(0, 1);
        x.nights(1);
        due("gone: he dreams nothing", x.table(0, 0), -4);
        due("gone: he is not served", x.table(0, 1), 0);
        x = Check.inn("g500;h001;");
        due("served, though gone by it", x.table(0, 1), 1);
        x = Check.inn(seven("g100;"));
        due("seven have what there is", x.table(6, 1), 1);
        x.fills(1, 4);
        due("there are 6 for seven", x.table(6, 1), 0);
        due("the sixth has one", x.table(5, 1), 1);
        due("an eighth", x.table(7, 0), -1);
        due("what 2", x.table(0, 2), -1);
    }

    /** "WISH BEST: .. most behind n NIGHTS (0 .. 60), of several the least; how much". */
    private static void wishBest() {
        ServesWhatOneDreamt x = Told.stocked(0, "g004;l599;");
        due("0 nights: all alike", x.bestWish(0, 0, 0), 0);
        due("0 nights", x.bestWish(0, 0, 1), 50);
        due("60 nights", x.bestWish(0, 60, 0), 5);
        due("60 nights", x.bestWish(0, 60, 1), 52);
        due("61 nights", x.bestWish(0, 61, 0), -1);
        x.fills(9, 99);
        due("5 and 9", x.bestWish(0, 60, 0), 5);
        Check.tell(x, "e05;");
        due("9 was not the last", x.bestWish(0, 60, 0), 9);
        x = Check.inn("g004;h098;");
        due("0 was the last", x.bestWish(0, 1, 0), 1);
        due("99 at most", x.bestWish(0, 1, 1), 99);
        x.heals(0, 99);
        due("99 by all", x.bestWish(0, 1, 0), 0);
        due("99 by all", x.bestWish(0, 1, 1), 99);
        x = Check.inn("g300;h005;g000;");
        due("gone by all", x.bestWish(0, 1, 0), 0);
        due("gone by all", x.bestWish(0, 1, 1), 0);
        x.nights(1);
        due("gone now", x.bestWish(0, 60, 0), 0);
        due("gone now", x.bestWish(0, 60, 1), 0);
        x = Told.stocked(0, "g300;");
        // In night 2 there is but what came: 2 of 1, 2 of 2.
        due("a cook's", x.bestWish(0, 2, 0), 1);
        due("a cook's", x.bestWish(0, 2, 1), 53);
        x = Told.stocked(0, "d60;".repeat(16) + "d39;");
        Check.tell(x, "g000;" + "l000;l100;l200;l300;l400;l500;l600;l700;l800;l901;");
        due("in night 1000", x.bestWish(0, 1, 0), 9);
        due("2 of 0 come, but 0 was the last", x.bestWish(0, 1, 1), 52);
    }

    /** "BUY: the PLATE of which 5 more now (99 at most) make LACKING least behind n NIGHTS (0 .. 60)". */
    private static void buy() {
        ServesWhatOneDreamt x = new ServesWhatOneDreamt();
        due("nobody", x.buy(0), -4);
        due("nobody", x.buy(60), -4);
        due("61", x.buy(61), -1);
        due("-1", x.buy(-1), -1);
        // 47 and 12 for 60 nights: he lacks in the 60th.
        x = Check.inn("g100;l147;");
        due("59 nights", x.buy(59), -4);
        due("60 nights", x.buy(60), 1);
        x.fills(1, 48);
        due("nobody lacks", x.buy(60), -4);
        x = Check.inn("g004;l400;");
        due("0 nights", x.buy(0), -4);
        due("1 night", x.buy(1), 4);
        x.nights(1);
        due("0 nights, one lacked already", x.buy(0), -4);
        x = Check.inn("g000;l000;");
        due("plate 0", x.buy(1), 0);
        x = Check.inn("g009;l900;");
        due("plate 9", x.buy(1), 9);
        x = Check.inn("g009;g000;l900;l000;");
        due("of several the least", x.buy(1), 0);
    }

    /** ".. less than as it is, of several the least; -4": 5 more that change nothing are none. */
    private static void buyLessThanAsItIs() {
        // In night 1 seven lack all 7 of plate 4: with 5 of it 2 lack, and none does by another.
        ServesWhatOneDreamt x = Check.inn(seven("g004;") + "l400;");
        due("as it is", x.then(1, 2), 7);
        due("5 more", x.buy(1), 4);
        // A bride who lacks 1 of 6 and one who lacks 2 of 7 are both fed by 5 more.
        x = Check.inn("g205;g206;l601;l700;");
        due("either", x.buy(1), 6);
        // Held at 99 there are no 5 more of 0, and the murderers eat nothing else.
        x = Check.inn(seven("g404;") + "l099;");
        due("101 for 15 nights of 7", x.then(15, 2), 4);
        due("99 at most", x.buy(15), -4);
        x.fills(0, 98);
        due("1 more", x.buy(15), 0);
    }

    /** "LEAST: .. so that nobody LACKS in the next n NIGHTS (1 .. 20); -4". */
    private static void least() {
        ServesWhatOneDreamt x = new ServesWhatOneDreamt();
        due("nobody, 1 night", x.least(0, 1), 0);
        due("nobody, 20 nights", x.least(9, 20), 0);
        due("0 nights", x.least(0, 0), -1);
        due("21 nights", x.least(0, 21), -1);
        due("plate 10", x.least(10, 1), -1);
        due("plate -1", x.least(-1, 1), -1);
        x = Check.inn("g009;l900;");
        due("1 night", x.least(9, 1), 1);
        due("8 nights", x.least(9, 8), 8);
        due("2 come in the 9th", x.least(9, 9), 8);
        due("20 nights less 2 and 2", x.least(9, 20), 16);
        due("another plate does not help", x.least(0, 1), -4);
        x = Told.inNight(999, "g009;l900;");
        due("2 come in the 10th, night 1009", x.least(9, 10), 9);
        x = Check.inn("g300;l000;h005;");
        due("who dreams nothing lacks nothing", x.least(9, 1), 0);
        due("who is gone lacks nothing", x.least(9, 20), 0);
        x = Check.inn("g004;l400;d01;");
        due("what lacked before does not count", x.least(4, 1), 1);
    }

    /** "the least of a PLATE (0 .. 99) there must be now". */
    private static void leastAndMostStock() {
        // 2 of plate 1 come in night 1 and 11: one plain one eats 2 in 2 nights.
        ServesWhatOneDreamt x = Check.inn("g100;");
        due("0 do", x.least(1, 2), 0);
        due("1 does", x.least(1, 3), 1);
        // Six murderers eat 6 a night and the cook 1 in every third; 2 come in night 10.
        x = Check.inn("g310;g400;g400;g400;g400;g400;g400;");
        due("93 do", x.least(0, 15), 93);
        due("99 do", x.least(0, 16), 99);
        due("105 would", x.least(0, 17), -4);
    }

    /** "SEND: .. behind n NIGHTS (0 .. 60) .. -4". */
    private static void send() {
        ServesWhatOneDreamt x = new ServesWhatOneDreamt();
        due("nobody, 0 nights", x.send(0), -4);
        due("nobody, 60 nights", x.send(60), -4);
        due("61", x.send(61), -1);
        due("-1", x.send(-1), -1);
        x = Check.inn("g100;");
        due("one alone", x.send(60), -4);
        // One alone has enough of 48 and 12 for 60 nights; two have not.
        x = Check.inn("g100;g100;l148;");
        due("60 nights", x.send(60), 0);
        due("0 nights", x.send(0), -4);
        x = Check.inn("g300;h005;d01;");
        due("all are gone", x.send(60), -4);
        x = Check.inn(seven("g004;") + "l406;");
        due("seven, and 6 plates", x.send(1), 0);
        x.fills(4, 7);
        due("seven, and 7 plates", x.send(1), -4);
        x = Check.inn("g300;g100;g100;h005;d01;l101;");
        due("the one gone is not sent", x.send(2), 1);
    }

    /** "HEALTH of the others THERE now, together (0 of one GONE then), .. more than as it is, of several the least". */
    private static void sendMoreThanAsItIs() {
        // Night 1: the child eats 4 and is GONE by it; then there is none for the guest.
        ServesWhatOneDreamt x = Check.inn("g530;g004;h003;h103;l401;");
        due("the guest would stay", x.send(1), 0);
        x.fills(4, 2);
        due("both have one: sending is not more", x.send(1), -4);
        // With 1 plate for two, only the second's HEALTH is more without the first.
        x = Check.inn("g004;g004;l401;");
        due("the second has it", x.send(1), 0);
        // Without the first 52 and 47 instead of 47 twice; without another 52 and 47 as it is.
        x = Check.inn("g004;g004;g004;l401;");
        due("one of three", x.send(1), 0);
        // Without 0 or without 2 they are 52, 52 and 47 instead of 52, 47 and 47.
        x = Check.inn("g004;g004;g005;g005;l401;l501;");
        due("of several the least", x.send(1), 0);
        x = Check.inn("g004;g004;g005;g005;l402;l501;");
        due("the third alone helps", x.send(1), 2);
    }

    private static void row(String text, int... wanted) {
        ServesWhatOneDreamt x = Check.inn(text);
        for (int i = 0; i < wanted.length; i++) {
            due(text + " seats(" + i + ")", x.seats(i), wanted[i]);
        }
        due(text + " no more", x.seats(wanted.length), -4);
        due(text + " an eighth", x.seats(7), -4);
        due(text + " -1", x.seats(-1), -1);
        due(text + " least", x.seats(Integer.MIN_VALUE), -1);
        due(text + " greatest", x.seats(Integer.MAX_VALUE), -4);
    }

    /** "SEATS: .. (who DREAMS nothing is unlike all): the first such row ..: the i-th; -4 no row, or no i-th." */
    private static void seats() {
        row("l005;");
        row("g000;", 0);
        row(seven("g000;"));
        row(seven("g300;"), 0, 1, 2, 3, 4, 5, 6);
        row("g000;g001;g002;g003;g004;g005;g006;", 0, 1, 2, 3, 4, 5, 6);
        row("g000;g000;g000;g000;g300;g300;g300;", 0, 4, 1, 5, 2, 6, 3);
        row("g000;g000;g000;g000;g000;g300;g300;");
        row("g300;g300;g300;g000;g000;g000;g000;", 3, 0, 4, 1, 5, 2, 6);
        row("g300;g000;g300;h005;h205;d01;", 1);
        row("g300;h005;d01;");
        // In night 2 the cook dreams of 0 as the guest does.
        row("g300;g000;d01;");
        row("g300;g001;d01;", 0, 1);
    }

    /** "SAME: how many twos THERE DREAM the same PLATE", "WELLEST .. of several the least; -4". */
    private static void same() {
        ServesWhatOneDreamt x = new ServesWhatOneDreamt();
        due("no twos of nobody", x.same(0), 0);
        due("nobody is wellest", x.same(1), -4);
        x = Check.inn("g000;");
        due("no twos of one", x.same(0), 0);
        due("one alone is wellest", x.same(1), 0);
        x = Check.inn(seven("g000;"));
        due("21 twos of seven", x.same(0), 21);
        due("the first of seven alike", x.same(1), 0);
        x.heals(6, 51);
        due("the seventh", x.same(1), 6);
        x = Check.inn(seven("g300;"));
        due("nothing is no plate", x.same(0), 0);
        x = Check.inn("g300;g000;g000;h005;h101;h201;d01;");
        due("those there alone", x.same(0), 1);
        due("the wellest of those there", x.same(1), 1);
        x = Check.inn("g300;h005;d01;");
        due("all are gone", x.same(0), 0);
        due("all are gone", x.same(1), -4);
        due("what 7", x.same(7), -1);
        due("what -1", x.same(-1), -1);
    }

    /** "FULLEST PLATE of the LARDER, of several the least; how many PLATES in all. EMPTY: .. of which there are none." */
    private static void larderInAll() {
        ServesWhatOneDreamt x = Told.stocked(0, "");
        due("the least of ten without any", x.same(2), 0);
        due("none in all", x.same(3), 0);
        due("none in all", x.count(5), 0);
        due("all are empty", x.same(4), 1023);
        x.fills(9, 1);
        due("the last", x.same(2), 9);
        due("all but the last are empty", x.same(4), 511);
        x.fills(8, 1);
        due("of several the least", x.same(2), 8);
        x = Told.stocked(99, "");
        due("the least of ten full ones", x.same(2), 0);
        due("990 in all", x.same(3), 990);
        due("990 in all", x.count(5), 990);
        due("none is empty", x.same(4), 0);
    }

    /** "WISHED: PLATES (bits) some THERE WISH. TASTED: PLATES (bits) that are the LAST of some THERE." */
    private static void wishedAndTasted() {
        ServesWhatOneDreamt x = new ServesWhatOneDreamt();
        due("nobody wishes", x.same(5), 0);
        due("nobody tasted", x.same(6), 0);
        x = Check.inn("g000;g109;e19;");
        due("0 and 9 are wished", x.same(5), 513);
        due("0 and 9 were tasted", x.same(6), 513);
        x = Check.inn("g306;e05;h001;g403;e12;d01;");
        due("the one gone does not wish", x.same(5), 8);
        due("the one gone tasted nothing", x.same(6), 1);
        x = Check.inn("g000;g001;g002;g003;g004;g005;g006;");
        due("seven wishes", x.same(5), 127);
        due("all have 0 as last at first", x.same(6), 1);
    }
}
