/** Promises 16 to 21: what is best. */
public final class BestPromisesTest {
    private static final Check CHECK = new Check();

    public static void main(String[] args) {
        promise16();
        promise17();
        promise18();
        promise19();
        promise20();
        promise21();
        CHECK.end("BestPromisesTest");
    }

    private static void due(String call, long got, long want) {
        CHECK.due(call, got, want);
    }

    private static void promise16() {
        ServesWhatOneDreamt x = Check.inn("g004;g205;g300;");
        due("as it is now", x.bestWish(0, 0, 0), 0);
        due("as it is now", x.bestWish(0, 0, 1), 50);
        due("0 was his last plate, 1 was not", x.bestWish(0, 1, 0), 1);
        due("how much", x.bestWish(0, 1, 1), 52);
        due("a bride's: 8 by wishing 7, and not the 9 by 8", x.bestWish(1, 1, 0), 7);
        due("how much", x.bestWish(1, 1, 1), 54);
        due("a cook's first night", x.bestWish(2, 1, 0), 0);
        due("how much", x.bestWish(2, 1, 1), 45);
        due("a cook's second night", x.bestWish(2, 2, 0), 0);
        due("how much", x.bestWish(2, 2, 1), 54);
        due("only in mind", x.guest(0, 2), 4);
        due("bestWish(3, 1, 0)", x.bestWish(3, 1, 0), -1);
        due("bestWish(-1, 1, 0)", x.bestWish(-1, 1, 0), -1);
        due("bestWish(0, 61, 0)", x.bestWish(0, 61, 0), -1);
        due("bestWish(0, -1, 0)", x.bestWish(0, -1, 0), -1);
        due("bestWish(0, 1, 2)", x.bestWish(0, 1, 2), -1);
        due("bestWish(0, 1, -1)", x.bestWish(0, 1, -1), -1);
        x.fills(0, 0);
        due("a cook's second night without 0", x.bestWish(2, 2, 0), 1);
        due("how much", x.bestWish(2, 2, 1), 53);
        x.heals(2, 5);
        x.nights(1);
        due("gone", x.bestWish(2, 9, 0), 0);
        due("gone", x.bestWish(2, 9, 1), 0);
        x = Check.inn("g002;l200;l100;l000;l300;l400;l500;l700;l800;");
        due("filled up first: 1", x.bestWish(0, 1, 0), 1);
        due("60 nights", x.bestWish(0, 60, 1) >= 0 ? 1 : 0, 1);
    }

    private static void promise17() {
        ServesWhatOneDreamt x = Check.inn("g004;");
        due("nobody lacks", x.buy(7), -4);
        due("he lacks in night 8", x.buy(8), 4);
        due("buy(0)", x.buy(0), -4);
        due("he lacks 18 times and is gone, either way", x.buy(60), -4);
        due("buy(61)", x.buy(61), -1);
        due("buy(-1)", x.buy(-1), -1);
        due("only in mind", x.larder(4), 5);
        x = Check.inn("g005;g003;");
        due("of several the least", x.buy(8), 3);
        x = Check.inn("g003;g005;g005;");
        due("two of them lack more", x.buy(8), 5);
        // Four murderers lack 3 of plate 0 in 26 nights, a plain one 3 of plate 1; 97 and 5 are but 99.
        x = Check.inn("g400;g400;g400;g400;g100;l097;l117;");
        due("as it is", x.then(26, 2), 6);
        due("99 at most", x.buy(26), 1);
        x.fills(0, 99);
        x.fills(1, 99);
        due("99 are not more", x.buy(60) == 0 ? 0 : 1, 1);
        // In 9 nights a murderer lacks 4 and a plain one 5; then 5 and 6.
        x = Check.inn("g400;g100;l102;");
        due("5 more do for 5", x.buy(9), 1);
        x = Check.inn("g400;g100;l004;l101;");
        due("but not for 6", x.buy(9), 0);
        x = new ServesWhatOneDreamt();
        due("nobody", x.buy(60), -4);
    }

    private static void promise18() {
        ServesWhatOneDreamt x = Check.inn("g004;");
        due("least(4, 1)", x.least(4, 1), 1);
        due("least(4, 3)", x.least(4, 3), 3);
        due("2 come in night 4", x.least(4, 4), 3);
        due("least(4, 5)", x.least(4, 5), 3);
        due("least(4, 6)", x.least(4, 6), 4);
        due("least(4, 20)", x.least(4, 20), 16);
        due("another plate", x.least(0, 7), 0);
        due("another lacks", x.least(0, 8), -4);
        due("least(4, 0)", x.least(4, 0), -1);
        due("least(4, 21)", x.least(4, 21), -1);
        due("least(10, 1)", x.least(10, 1), -1);
        due("least(-1, 1)", x.least(-1, 1), -1);
        due("only in mind", x.larder(4), 5);
        x = Check.inn("g400;g400;g400;g400;g400;");
        due("100 less 4", x.least(0, 20), 96);
        x = Check.inn("g400;g400;g400;g400;g400;g201;");
        due("a bride eats 2 of each in turn", x.least(2, 1), 2);
        // Six murderers eat 96 in 16 nights, the cook 5; 2 come in night 10.
        x = Check.inn("g310;g400;g400;g400;g400;g400;g400;");
        due("99 do", x.least(0, 16), 99);
        due("99 do not", x.least(0, 17), -4);
        x = Check.inn("g404;g404;g404;g404;g404;g404;");
        due("116 are too many", x.least(0, 20), -4);
        due("96 do for 16", x.least(0, 16), 94);
        due("102 less 2", x.least(0, 17), -4);
        x = Check.inn("g004;l400;d01;");
        due("what lacked before does not count", x.least(4, 1), 1);
        x = Check.inn("g300;");
        due("who dreams nothing lacks nothing", x.least(0, 1), 0);
        due("a cook in night 2", x.least(0, 2), 1);
        x = Check.inn("g001;");
        due("2 come in night 1", x.least(1, 1), 0);
        due("2 come in night 1", x.least(1, 2), 0);
        due("2 come in night 1", x.least(1, 3), 1);
    }

    private static void promise19() {
        ServesWhatOneDreamt x = Check.inn("g004;g004;");
        due("19 and not 7 and 4", x.send(20), 0);
        due("all are gone by then", x.send(30), -4);
        due("send(0)", x.send(0), -4);
        due("43 instead of 31, or 43 instead of 34: either, so the least", x.send(10), 0);
        due("send(61)", x.send(61), -1);
        due("send(-1)", x.send(-1), -1);
        due("only in mind", x.count(4), 3);
        x = Check.inn("g005;g004;g004;");
        due("19 and 19 instead of 19, 7 and 4: either, so the least", x.send(20), 1);
        x = Check.inn("g001;g001;");
        due("52 instead of 43, or 52 instead of 46", x.send(6), 0);
        x = Check.inn("g004;g004;h090;");
        due("the most HEALTH, not the most more: 83 instead of 74, not 43 instead of 31", x.send(10), 1);
        x = Check.inn("g004;g004;g005;h201;");
        due("without the last most, 65, but not more than as it is", x.send(10), 0);
        x = Check.inn("g004;g004;g005;h003;l400;d01;");
        due("one is gone", x.count(4), 6);
        due("none to send: nobody takes the other's", x.send(20), -4);
        x = Check.inn("g004;");
        due("one alone", x.send(20), -4);
        x = new ServesWhatOneDreamt();
        due("nobody", x.send(20), -4);
    }

    private static void row(String text, int... wanted) {
        ServesWhatOneDreamt x = Check.inn(text);
        for (int i = 0; i < wanted.length; i++) {
            due(text + " seats(" + i + ")", x.seats(i), wanted[i]);
        }
        due(text + " no more", x.seats(wanted.length), -4);
        due(text + " far off", x.seats(Integer.MAX_VALUE), -4);
    }

    private static void promise20() {
        row("g004;", 0);
        row("g004;g004;");
        row("g004;g005;", 0, 1);
        row("g004;g004;g005;", 0, 2, 1);
        row("g004;g005;g005;", 1, 0, 2);
        row("g004;g004;g004;g005;g006;", 0, 3, 1, 4, 2);
        row("g004;g004;g004;g004;g005;g006;");
        row("g004;g004;g004;g004;g005;g006;g007;", 0, 4, 1, 5, 2, 6, 3);
        row("g005;g006;g007;g004;g004;g004;g004;", 3, 0, 4, 1, 5, 2, 6);
        row("g300;g300;", 0, 1);
        row("g004;g004;g300;g300;", 0, 2, 1, 3);
        row("g203;g004;g400;", 0, 2, 1);
        row("g004;g005;g004;h203;l400;d01;", 0, 1);
        row("g004;g005;g004;h003;l400;d01;", 1, 2);
        ServesWhatOneDreamt x = new ServesWhatOneDreamt();
        due("nobody", x.seats(0), -4);
        due("seats(-1)", x.seats(-1), -1);
        due("seats(least)", x.seats(Integer.MIN_VALUE), -1);
    }

    private static void same(String text, int... wanted) {
        ServesWhatOneDreamt x = Check.inn(text);
        for (int what = 0; what < wanted.length; what++) {
            due(text + " same(" + what + ")", x.same(what), wanted[what]);
        }
        due("same(7)", x.same(7), -1);
        due("same(-1)", x.same(-1), -1);
    }

    private static void promise21() {
        same("l005;", 0, -4, 0, 50, 0, 0, 0);
        same("g004;g004;g004;g005;l306;l709;l809;l200;l000;", 3, 0, 7, 49, 5, 48, 1);
        same("g004;g203;g104;g001;h220;e25;e19;", 2, 0, 0, 50, 0, 26, 545);
        same("g004;e07;", 0, 0, 0, 50, 0, 16, 128);
        same("g300;g300;h151;", 0, 1, 0, 50, 0, 1, 1);
        same("g009;g004;g004;h003;e07;l900;l400;d01;", 1, 1, 1, 42, 528, 16, 1);
    }
}
