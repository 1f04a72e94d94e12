/**
 * The edges under "Terms": the ranges, DREAMS, EATS, GAINS and A NIGHT. Each test bears the sentence that it is about.
 */
public final class RangeEdgesTest {
    private static final Check CHECK = new Check();

    public static void main(String[] args) {
        platesAndLarder();
        guestsSevenAtMost();
        goneKeepTheirRoom();
        kindsAndFigures();
        asAtFirst();
        servedAndLackingHeld();
        nightAtMost999();
        dreamsOfGuestsAndPlainOnes();
        dreamsOfBrides();
        dreamsOfCooks();
        dreamsOfChildren();
        dreamsOfTravellers();
        eats();
        gainsByWish();
        gainsByNight();
        filledUp();
        filledUpBeforeBreakfast();
        byNumbers();
        healthHeldAt99();
        healthHeldAt0();
        goneByWhatHeEats();
        goneOnesEatNothing();
        lastOfTheCalls();
        CHECK.end("RangeEdgesTest");
    }

    private static void due(String call, long got, long want) {
        CHECK.due(call, got, want);
    }

    /** "PLATES 0 .. 9, of each so many in the LARDER (0 .. 99; 5 at first)." */
    private static void platesAndLarder() {
        ServesWhatOneDreamt x = new ServesWhatOneDreamt();
        for (int k : new int[] {0, 9}) {
            due("5 at first of " + k, x.larder(k), 5);
            due("fills(" + k + ", 0)", x.fills(k, 0), 5);
            due("none of " + k, x.larder(k), 0);
            due("fills(" + k + ", 99)", x.fills(k, 99), 0);
            due("99 of " + k, x.larder(k), 99);
            due("fills(" + k + ", 100)", x.fills(k, 100), -1);
            due("fills(" + k + ", -1)", x.fills(k, -1), -1);
            due("still 99 of " + k, x.larder(k), 99);
        }
        for (int k : new int[] {-1, 10, Integer.MIN_VALUE, Integer.MAX_VALUE}) {
            due("larder(" + k + ")", x.larder(k), -1);
            due("fills(" + k + ", 1)", x.fills(k, 1), -1);
        }
        due("99 twice and 5 of eight", x.count(5), 238);
    }

    /** "GUESTS 0 .. 6 as they come (7 at most)." */
    private static void guestsSevenAtMost() {
        ServesWhatOneDreamt x = new ServesWhatOneDreamt();
        x.keep(0, 1, 1, 0);
        due("nobody yet", x.guest(0, 0), -1);
        for (int g = 0; g < 7; g++) {
            due("the next is " + g, x.comes(0, g), g);
            due("he is there", x.guest(g, 5), 1);
            due("none behind him", x.guest(g + 1, 0), -1);
        }
        due("an eighth", x.comes(0, 0), -2);
        due("an eighth by a text", Check.tell(x, "g000;"), -2000);
        due("still seven", x.count(0), 7);
        due("the seventh is as he was", x.guest(6, 2), 6);
        due("all there", x.count(4), 127);
    }

    /** "GUESTS .. (7 at most)": one GONE is a GUEST still. */
    private static void goneKeepTheirRoom() {
        ServesWhatOneDreamt x = Check.inn("g300;g100;g100;g100;g100;g100;g100;h001;d01;");
        due("the first is gone", x.count(4), 126);
        x.keep(0, 1, 0, 0);
        due("no room in his place", x.comes(0, 0), -2);
        due("nor by a text", Check.tell(x, "g000;"), -2000);
        due("seven", x.count(0), 7);
        due("he is still a cook", x.guest(0, 0), 3);
    }

    /** "KINDS: 0 .. 7", "each with a FIGURE (0 .. 9), a WISH (a PLATE)". */
    private static void kindsAndFigures() {
        ServesWhatOneDreamt x = new ServesWhatOneDreamt();
        due("kind 0, figure 0", x.keep(0, 1, 0, 0), 0);
        due("kind 7, figure 9", x.keep(1, 1, 7, 9), 0);
        due("wish 0", x.comes(0, 0), 0);
        due("wish 9", x.comes(1, 9), 1);
        due("the first's kind", x.guest(0, 0), 0);
        due("the first's figure", x.guest(0, 1), 0);
        due("the first's wish", x.guest(0, 2), 0);
        due("the other's kind", x.guest(1, 0), 7);
        due("the other's figure", x.guest(1, 1), 9);
        due("the other's wish", x.guest(1, 2), 9);
        due("wishes(0, 9)", x.wishes(0, 9), 0);
        due("wishes(0, 0)", x.wishes(0, 0), 9);
        due("wishes(0, 10)", x.wishes(0, 10), -1);
        due("wishes(0, -1)", x.wishes(0, -1), -1);
        due("the wish is as it was", x.guest(0, 2), 0);
    }

    /** "LAST PLATE (0 at first), HEALTH (50 at first), THERE (at first) .. SERVED, LACKING, NIGHT (0 at first)." */
    private static void asAtFirst() {
        ServesWhatOneDreamt x = new ServesWhatOneDreamt();
        for (int what = 0; what < 5; what++) {
            due("count(" + what + ") at first", x.count(what), 0);
        }
        x.keep(0, 1, 4, 9);
        x.comes(0, 9);
        Check.tell(x, "g669;");
        for (int g = 0; g < 2; g++) {
            due("last plate at first of " + g, x.guest(g, 3), 0);
            due("health at first of " + g, x.guest(g, 4), 50);
            due("there at first, " + g, x.guest(g, 5), 1);
        }
        x.nights(5);
        x.comes(0, 1);
        due("last plate at first of one who comes late", x.guest(2, 3), 0);
        due("health at first of one who comes late", x.guest(2, 4), 50);
    }

    /** "SERVED (0 .. 9999)", "LACKING (0 .. 9999)": "SERVED 1 more (9999 at most)", "LACKING 1 more (9999 at most)". */
    private static void servedAndLackingHeld() {
        ServesWhatOneDreamt x = Check.inn("g004;g005;g300;l500;");
        Told.force(x, "served", 9997);
        Told.force(x, "lacking", 9997);
        int[] held = {9998, 9999, 9999, 9999};
        for (int n = 0; n < held.length; n++) {
            due("served, in mind", x.then(1, 1), held[n]);
            due("lacking, in mind", x.then(1, 2), held[n]);
            x.nights(1);
            due("served behind " + (n + 1), x.count(2), held[n]);
            due("lacking behind " + (n + 1), x.count(3), held[n]);
        }
    }

    /** "NIGHT (0 .. 999)", "-3 NIGHT above 999", "NIGHT may pass 999 there". */
    private static void nightAtMost999() {
        ServesWhatOneDreamt x = Told.inNight(939, "");
        due("61 more are out of range", x.nights(61), -1);
        due("60 more", x.nights(60), 0);
        due("night", x.count(1), 999);
        due("no night more", x.nights(1), -3);
        due("nor 60", x.nights(60), -3);
        due("out of range comes first", x.nights(0), -1);
        due("night", x.count(1), 999);
        x = Told.inNight(940, "");
        due("60 more are one too many", x.nights(60), -3);
        due("none of them came", x.count(1), 940);
        due("59 more", x.nights(59), 0);
        due("night", x.count(1), 999);
    }

    /** What one DREAMS in NIGHT d, by his own digits and his LAST PLATE. */
    private static void dream(int d, String guest, int last, int want) {
        ServesWhatOneDreamt x = Told.inNight(d - 1, guest + "e0" + last + ";");
        due(guest + " in night " + d + ", last plate " + last, x.table(0, 0), want);
    }

    /** "GUEST w; PLAIN 1; .. MURDERER 0; .. WIDOWER 9". */
    private static void dreamsOfGuestsAndPlainOnes() {
        dream(1, "g000;", 5, 0);
        dream(2, "g099;", 5, 9);
        dream(10, "g055;", 5, 5);
        dream(1, "g190;", 5, 1);
        dream(2, "g109;", 9, 1);
        dream(1, "g499;", 9, 0);
        dream(10, "g409;", 9, 0);
        dream(1, "g600;", 0, 9);
        dream(10, "g690;", 0, 9);
    }

    /** "BRIDE w and d, modulo 10". */
    private static void dreamsOfBrides() {
        dream(1, "g200;", 5, 1);
        dream(1, "g208;", 5, 9);
        dream(1, "g209;", 5, 0);
        dream(9, "g200;", 5, 9);
        dream(10, "g200;", 5, 0);
        dream(10, "g299;", 5, 9);
        dream(11, "g299;", 5, 0);
        dream(999, "g290;", 5, 9);
        dream(1000, "g209;", 5, 9);
    }

    /** "COOK nothing, if 2 more than FIGURE does not divide d, else as a GUEST". */
    private static void dreamsOfCooks() {
        dream(1, "g306;", 5, -4);
        dream(2, "g306;", 5, 6);
        dream(3, "g306;", 5, -4);
        dream(10, "g396;", 5, -4);
        dream(11, "g396;", 5, 6);
        dream(12, "g396;", 5, -4);
        dream(9, "g380;", 5, -4);
        dream(10, "g380;", 5, 0);
        dream(999, "g370;", 5, 0);
        dream(1000, "g370;", 5, -4);
        dream(1000, "g389;", 5, 9);
    }

    /** "CHILD p and 1 and FIGURE, modulo 10". */
    private static void dreamsOfChildren() {
        dream(1, "g509;", 0, 1);
        dream(1, "g589;", 0, 9);
        dream(1, "g599;", 0, 0);
        dream(2, "g509;", 8, 9);
        dream(2, "g509;", 9, 0);
        dream(2, "g599;", 9, 9);
        dream(2, "g599;", 5, 5);
    }

    /** "TRAVELLER p, if d is even, else as a COOK". */
    private static void dreamsOfTravellers() {
        dream(1, "g706;", 9, -4);
        dream(2, "g706;", 9, 9);
        dream(2, "g706;", 0, 0);
        dream(3, "g706;", 9, -4);
        dream(3, "g716;", 9, 6);
        dream(5, "g716;", 9, -4);
        dream(6, "g716;", 9, 9);
        dream(9, "g776;", 5, 6);
        dream(11, "g796;", 5, 6);
        dream(22, "g796;", 5, 5);
        dream(999, "g716;", 5, 6);
        dream(1000, "g716;", 5, 5);
    }

    /** "of what he DREAMS there are as many as he EATS: so many less ..; else (fewer)": in NIGHT 2 there is no more of it. */
    private static void eats(String guest, int last, int plate, int many) {
        ServesWhatOneDreamt x = Told.inNight(1, guest + "e0" + last + ";l" + plate + "0" + many + ";");
        due(guest + " eats", x.guest(0, 6), many);
        due(guest + " is served by as many", x.table(0, 1), 1);
        due(guest + " leaves none", x.larderThen(plate, 1), 0);
        due(guest + " lacks nothing", x.then(1, 2), 0);
        x.fills(plate, many + 1);
        due(guest + " leaves what is more", x.larderThen(plate, 1), 1);
        x.fills(plate, many - 1);
        due(guest + " is not served by fewer", x.table(0, 1), 0);
        due(guest + " leaves what is too few", x.larderThen(plate, 1), many - 1);
        due(guest + " lacks it", x.then(1, 2), 1);
        due(guest + " is 3 less well", x.guestThen(0, 1, 0), 47);
        due(guest + " keeps his last plate", x.guestThen(0, 1, 1), last);
    }

    /** "EATS: GUEST 1; PLAIN 1; BRIDE 2; COOK 1; MURDERER 1; CHILD 1 less ..; WIDOWER ..; TRAVELLER 1 more than a COOK." */
    private static void eats() {
        eats("g004;", 6, 4, 1);
        eats("g104;", 6, 1, 1);
        eats("g204;", 5, 6, 2);
        eats("g304;", 6, 4, 1);
        eats("g404;", 6, 0, 1);
        eats("g534;", 0, 4, 1);
        eats("g654;", 6, 9, 1);
        eats("g754;", 4, 4, 2);
    }

    private static void gains(String guest, int last, int... wanted) {
        ServesWhatOneDreamt x = Check.inn(guest + "e0" + last + ";");
        for (int k = 0; k < 10; k++) {
            x.wishes(0, k);
            due(guest + " gains from " + k + ", last plate " + last, x.guest(0, 7), 10 + wanted[k]);
        }
    }

    /** "GAINS in HEALTH (from PLATE k)", and 10 (promise 3, what 7). */
    private static void gainsByWish() {
        gains("g090;", 0, 0, 2, 2, 2, 2, 2, 2, 2, 2, 2);
        gains("g090;", 9, 2, 2, 2, 2, 2, 2, 2, 2, 2, 0);
        gains("g190;", 1, 1, 1, 1, 1, 1, 1, 1, 1, 1, 1);
        gains("g290;", 3, 0, 0, 1, 1, 2, 2, 3, 3, 4, 4);
        gains("g390;", 4, 9, 8, 7, 6, 5, 4, 3, 2, 1, 0);
        gains("g490;", 0, 1, 1, 1, 1, 1, 1, 1, 1, 1, 1);
        gains("g590;", 7, -3, -3, -2, -2, -1, -1, 0, 0, 1, 1);
        gains("g600;", 0, 0, 0, 0, 0, 0, 0, 0, 0, 0, 0);
        gains("g690;", 0, 9, 9, 9, 9, 9, 9, 9, 9, 9, 9);
        gains("g790;", 2, 8, 7, 6, 5, 4, 3, 2, 1, 0, 0);
    }

    private static void gain(int night, String guest, int last, int want) {
        ServesWhatOneDreamt x = Told.inNight(night - 1, guest + "e0" + last + ";");
        due(guest + " in night " + night + " behind plate " + last, x.guestThen(0, 1, 0), 50 + want);
    }

    /** The same at breakfast: what was the LAST PLATE is looked at before it is another. */
    private static void gainsByNight() {
        gain(1, "g000;", 0, 0);
        gain(1, "g000;", 9, 2);
        gain(1, "g009;", 9, 0);
        gain(1, "g100;", 1, 1);
        gain(1, "g209;", 0, 0);
        gain(1, "g208;", 0, 4);
        gain(2, "g300;", 0, 9);
        gain(2, "g309;", 9, 0);
        gain(2, "g400;", 0, 1);
        gain(1, "g599;", 0, -3);
        gain(1, "g589;", 0, 1);
        gain(1, "g600;", 9, 0);
        gain(1, "g690;", 9, 9);
        gain(2, "g700;", 0, 8);
        gain(2, "g700;", 8, 0);
        gain(2, "g700;", 9, 0);
    }

    private static void filled(int night, int plate, int had, int want) {
        ServesWhatOneDreamt x = Told.inNight(night - 1, "l" + plate + had + ";");
        int others = x.count(5) - had;
        x.nights(1);
        due("plate " + plate + " of " + had + " in night " + night, x.larder(plate), want);
        due("no other is filled up in night " + night, x.count(5) - x.larder(plate), others);
    }

    /** "the LARDER has 2 PLATES more of the one that is NIGHT modulo 10 (99 at most)". */
    private static void filledUp() {
        filled(1, 1, 10, 12);
        filled(1, 1, 96, 98);
        filled(1, 1, 97, 99);
        filled(1, 1, 98, 99);
        filled(1, 1, 99, 99);
        filled(9, 9, 10, 12);
        filled(10, 0, 10, 12);
        filled(11, 1, 10, 12);
        filled(999, 9, 10, 12);
        ServesWhatOneDreamt x = Told.inNight(999, "l010;l110;l999;");
        due("night 1000, in mind", x.larderThen(0, 1), 12);
        due("night 1001, in mind", x.larderThen(1, 2), 12);
        due("night 1009, in mind", x.larderThen(9, 10), 99);
    }

    /** "(99 at most); then GUESTS THERE": what is beyond 99 is not there for breakfast. */
    private static void filledUpBeforeBreakfast() {
        ServesWhatOneDreamt x = Check.inn("g100;l199;");
        due("99 and 2, less 1", x.larderThen(1, 1), 98);
        x.fills(1, 98);
        due("98 and 2, less 1", x.larderThen(1, 1), 98);
        x.fills(1, 97);
        due("97 and 2, less 1", x.larderThen(1, 1), 98);
        x.fills(1, 96);
        due("96 and 2, less 1", x.larderThen(1, 1), 97);
        x.fills(1, 0);
        due("what comes is there for breakfast", x.table(0, 1), 1);
        x = Told.inNight(9, "g209;l900;");
        due("2 come, 2 are eaten", x.larderThen(9, 1), 0);
        x = Told.inNight(9, "g200;l000;");
        due("2 of plate 0 in night 10", x.table(0, 1), 1);
    }

    /** "then GUESTS THERE, by numbers". */
    private static void byNumbers() {
        ServesWhatOneDreamt x = Check.inn("g004;g004;g004;l402;");
        due("the first", x.table(0, 1), 1);
        due("the second", x.table(1, 1), 1);
        due("none is left for the third", x.table(2, 1), 0);
        x = Check.inn("g203;g004;g004;l402;");
        due("a bride ahead", x.table(0, 1), 1);
        due("none is left", x.table(1, 1), 0);
        x = Check.inn("g004;g203;g004;l402;");
        due("a bride behind one", x.table(1, 1), 0);
        due("what is too few for her is left for the next", x.table(2, 1), 1);
    }

    private static void healthBehind(String guest, int had, int want) {
        ServesWhatOneDreamt x = Told.inNight(1, guest + "h0" + (had < 10 ? "0" : "") + had + ";");
        due(guest + " of " + had + ", in mind", x.guestThen(0, 1, 0), want);
        due(guest + " of " + had + ": there", x.nights(1), want > 0 ? 1 : 0);
        due(guest + " of " + had, x.guest(0, 4), want);
        due(guest + " of " + had + ": there", x.guest(0, 5), want > 0 ? 1 : 0);
    }

    /** "he GAINS (HEALTH 0 .. 99 held)": above. */
    private static void healthHeldAt99() {
        healthBehind("g000;e01;", 96, 98);
        healthBehind("g000;e01;", 97, 99);
        healthBehind("g000;e01;", 98, 99);
        healthBehind("g000;e01;", 99, 99);
        healthBehind("g100;", 98, 99);
        healthBehind("g100;", 99, 99);
        healthBehind("g300;", 90, 99);
        healthBehind("g300;", 91, 99);
        healthBehind("g690;", 89, 98);
        healthBehind("g690;", 99, 99);
    }

    /** "who DREAMS nothing: HEALTH 5 less", "else (fewer): HEALTH 3 less", "HEALTH is 0 at least; at 0 he is GONE". */
    private static void healthHeldAt0() {
        healthBehind("g310;", 99, 94);
        healthBehind("g310;", 6, 1);
        healthBehind("g310;", 5, 0);
        healthBehind("g310;", 4, 0);
        healthBehind("g310;", 1, 0);
        healthBehind("l400;g004;", 99, 96);
        healthBehind("l400;g004;", 4, 1);
        healthBehind("l400;g004;", 3, 0);
        healthBehind("l400;g004;", 2, 0);
        healthBehind("l400;g004;", 1, 0);
        healthBehind("g600;", 1, 1);
        healthBehind("g000;", 1, 1);
    }

    /** "CHILD 3 less than a BRIDE (may be below 0)", "(HEALTH 0 .. 99 held)": SERVED, and GONE by it. */
    private static void goneByWhatHeEats() {
        healthBehind("g500;", 4, 1);
        for (int had = 1; had <= 3; had++) {
            healthBehind("g500;", had, 0);
            ServesWhatOneDreamt x = Check.inn("g500;h00" + had + ";d01;");
            due("served", x.count(2), 1);
            due("not lacking", x.count(3), 0);
            due("his last plate", x.guest(0, 3), 1);
            due("one of it is eaten", x.larder(1), 6);
            due("gone", x.count(4), 0);
        }
    }

    /** "then GUESTS THERE": who is GONE neither DREAMS nor eats nor LACKS. */
    private static void goneOnesEatNothing() {
        ServesWhatOneDreamt x = Check.inn("g310;g100;h005;d01;");
        due("gone", x.count(4), 2);
        due("nights(2)", x.nights(2), 1);
        due("the cook would have dreamt in night 3", x.larder(0), 5);
        due("served", x.count(2), 3);
        due("lacking", x.count(3), 0);
        due("health stays 0", x.guest(0, 4), 0);
        due("his last plate stays", x.guest(0, 3), 0);
        x = Check.inn("g300;h005;d01;");
        due("all are gone", x.nights(60), 0);
        due("neither served", x.count(2), 0);
        due("nor lacking", x.count(3), 0);
        due("gone still", x.guest(0, 5), 0);
    }

    /** "An object is used for at most 512 calls": the last of them is answered as the first. */
    private static void lastOfTheCalls() {
        ServesWhatOneDreamt x = new ServesWhatOneDreamt();
        x.keep(0, 1, 1, 0);
        x.comes(0, 0);
        for (int call = 3; call <= 509; call++) {
            x.years(20, call, 0);
        }
        due("call 510", x.nights(1), 1);
        due("call 511", x.guest(0, 4), 51);
        // He eats 1 and 6, lacks thrice, then eats 2 and lacks 8 times in turn, until he is gone in night 34.
        due("call 512", x.then(60, 1), 13);
    }
}
