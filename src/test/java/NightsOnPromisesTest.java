/** Promises 10 to 15: nights on. */
public final class NightsOnPromisesTest {
    private static final Check CHECK = new Check();

    public static void main(String[] args) {
        promise10();
        promise11();
        promise12();
        promise13();
        promise14();
        promise15();
        promise15Kinds();
        beyondNight999();
        CHECK.end("NightsOnPromisesTest");
    }

    private static void due(String call, long got, long want) {
        CHECK.due(call, got, want);
    }

    private static void promise10() {
        ServesWhatOneDreamt x = Check.inn("g004;g205;");
        due("guestThen(0, 0, 0)", x.guestThen(0, 0, 0), 50);
        due("guestThen(0, 0, 1)", x.guestThen(0, 0, 1), 0);
        due("guestThen(0, 1, 0)", x.guestThen(0, 1, 0), 52);
        due("guestThen(0, 1, 1)", x.guestThen(0, 1, 1), 4);
        due("guestThen(1, 3, 0)", x.guestThen(1, 3, 0), 60);
        due("guestThen(1, 3, 1)", x.guestThen(1, 3, 1), 8);
        due("guestThen(0, 60, 0)", x.guestThen(0, 60, 0), 0);
        due("guestThen(0, 61, 0)", x.guestThen(0, 61, 0), -1);
        due("guestThen(0, -1, 0)", x.guestThen(0, -1, 0), -1);
        due("guestThen(2, 1, 0)", x.guestThen(2, 1, 0), -1);
        due("guestThen(-1, 1, 0)", x.guestThen(-1, 1, 0), -1);
        due("guestThen(0, 1, 2)", x.guestThen(0, 1, 2), -1);
        due("guestThen(0, 1, -1)", x.guestThen(0, 1, -1), -1);
        due("only in mind", x.guest(0, 4), 50);
        due("only in mind", x.count(1), 0);
        due("only in mind", x.count(5), 50);
    }

    private static void promise11() {
        ServesWhatOneDreamt x = Check.inn("g004;");
        due("larderThen(4, 0)", x.larderThen(4, 0), 5);
        due("larderThen(4, 3)", x.larderThen(4, 3), 2);
        due("larderThen(4, 4)", x.larderThen(4, 4), 3);
        due("larderThen(4, 7)", x.larderThen(4, 7), 0);
        due("larderThen(0, 10)", x.larderThen(0, 10), 7);
        due("larderThen(0, 60)", x.larderThen(0, 60), 17);
        due("larderThen(9, 60)", x.larderThen(9, 60), 17);
        due("larderThen(10, 1)", x.larderThen(10, 1), -1);
        due("larderThen(-1, 1)", x.larderThen(-1, 1), -1);
        due("larderThen(0, 61)", x.larderThen(0, 61), -1);
        due("larderThen(0, -1)", x.larderThen(0, -1), -1);
        due("only in mind", x.larder(4), 5);
    }

    private static void promise12() {
        ServesWhatOneDreamt x = Check.inn("g004;g300;h105;");
        due("then(0, 0)", x.then(0, 0), 3);
        due("then(1, 0)", x.then(1, 0), 1);
        due("then(1, 1)", x.then(1, 1), 1);
        due("then(1, 2)", x.then(1, 2), 0);
        due("then(8, 1)", x.then(8, 1), 7);
        due("then(8, 2)", x.then(8, 2), 1);
        due("then(60, 0)", x.then(60, 0), 0);
        due("then(61, 0)", x.then(61, 0), -1);
        due("then(-1, 0)", x.then(-1, 0), -1);
        due("then(1, 3)", x.then(1, 3), -1);
        due("then(1, -1)", x.then(1, -1), -1);
        due("only in mind", x.count(4), 3);
        x.nights(2);
        due("on top of what there is", x.then(1, 1), 3);
    }

    private static void promise13() {
        ServesWhatOneDreamt x = Check.inn("g104;g300;g300;h110;h205;h006;");
        // 38 behind 14 nights; plate 0 comes by twos every 10 nights, too few for every other night.
        due("a cook of 10: 5, 14, 9, 18 ..", x.leaves(1), 36);
        due("a cook of 5", x.leaves(2), 1);
        due("first", x.leaves(-1), 2);
        x.nights(1);
        due("gone now", x.leaves(2), 0);
        due("leaves(3)", x.leaves(3), -1);
        due("leaves(-2)", x.leaves(-2), -1);
        due("only in mind", x.count(1), 1);
        x = Check.inn("g300;g300;h005;h105;");
        due("of several the least", x.leaves(-1), 0);
        x.nights(1);
        due("none there", x.leaves(-1), -4);
        // A murderer eats 5 nights long, gains 5, then lacks but for the nights 10, 11, 20, 21, ..
        x = Check.inn("g400;");
        due("a murderer", x.leaves(0), 29);
        due("he is the first", x.leaves(-1), 0);
        // 33 times lacking is the end of 99: from night 20 on but for 24, 25, 34, 35, ..: the 33rd is night 59.
        x = Check.inn("g004;l414;h099;");
        due("the 59th night", x.leaves(0), 59);
        x.fills(4, 15);
        due("a plate more", x.leaves(0), 60);
        x.fills(4, 16);
        due("and one more: not in 60", x.leaves(0), -4);
        due("nor is he the first", x.leaves(-1), -4);
        x.fills(4, 15);
        due("he is the first in the 60th night", x.leaves(-1), 0);
    }

    private static void promise14() {
        ServesWhatOneDreamt x = Check.inn("g004;");
        due("out(4)", x.out(4), 7);
        due("out(5)", x.out(5), -4);
        due("out(10)", x.out(10), -1);
        due("out(-1)", x.out(-1), -1);
        x.fills(5, 0);
        due("none now", x.out(5), 0);
        x.fills(4, 1);
        due("one left", x.out(4), 1);
        due("only in mind", x.larder(4), 1);
        // 60 nights: 48 and 2 six times, eaten one a night, healthy all the time.
        x = Check.inn("g100;l148;");
        due("at the 60th night", x.out(1), 60);
        x.fills(1, 49);
        due("not in 60", x.out(1), -4);
    }

    private static void promise15() {
        ServesWhatOneDreamt x = Check.inn("g004;g004;g300;g205;l401;");
        due("table(0, 0)", x.table(0, 0), 4);
        due("table(0, 1)", x.table(0, 1), 1);
        due("table(1, 0)", x.table(1, 0), 4);
        due("the first ate it", x.table(1, 1), 0);
        due("nothing", x.table(2, 0), -4);
        due("nothing is not served", x.table(2, 1), 0);
        due("a bride's", x.table(3, 0), 6);
        due("a bride's", x.table(3, 1), 1);
        due("table(4, 0)", x.table(4, 0), -1);
        due("table(-1, 0)", x.table(-1, 0), -1);
        due("table(0, 2)", x.table(0, 2), -1);
        due("table(0, -1)", x.table(0, -1), -1);
        due("only in mind", x.count(2), 0);
        x.heals(1, 3);
        x.nights(1);
        due("gone", x.table(1, 0), -4);
        due("gone", x.table(1, 1), 0);
        due("night 2: a cook's", x.table(2, 0), 0);
        due("night 2: a bride's", x.table(3, 0), 7);
        due("those served in the last night do not count", x.table(0, 1), 0);
        x = Check.inn("g001;l100;");
        due("the larder is filled up first", x.table(0, 1), 1);
    }

    /** One kind alone: what he dreams in each of some nights; he never lacks. */
    private static void dreams(String text, int... wanted) {
        ServesWhatOneDreamt x = Check.inn(text);
        for (int k = 0; k < 10; k++) {
            x.fills(k, 99);
        }
        for (int n = 0; n < wanted.length; n++) {
            due(text + " in night " + (n + 1), x.table(0, 0), wanted[n]);
            x.nights(1);
        }
    }

    private static void promise15Kinds() {
        dreams("g073;", 3, 3, 3);
        dreams("g173;", 1, 1, 1);
        dreams("g273;", 4, 5, 6, 7, 8, 9, 0, 1);
        dreams("g303;", -4, 3, -4, 3);
        dreams("g313;", -4, -4, 3, -4, -4, 3);
        dreams("g393;h099;", -4, -4, -4, -4, -4, -4, -4, -4, -4, -4, 3, -4);
        dreams("g473;", 0, 0, 0);
        dreams("g573;", 8, 6, 4, 2, 0, 8);
        dreams("g503;e08;", 9, 0, 1);
        dreams("g673;", 9, 9, 9);
        dreams("g713;e06;", -4, 6, 3, 3, -4, 3, -4, 3);
    }

    private static void beyondNight999() {
        ServesWhatOneDreamt x = Check.inn("d60;".repeat(16) + "d39;" + "g205;l000;");
        due("a bride in night 1000", x.table(0, 0), 5);
        due("plates in night 1000", x.larderThen(0, 1), 2);
        due("60 nights on", x.guestThen(0, 60, 0), 99);
    }
}
