import java.lang.reflect.Field;
import java.util.ArrayList;
import java.util.List;

/** Inns as the tests of edges need them, and all that can be asked of one without a change. */
final class Told {
    /** A row's elements are asked for up to here; the rows of these tests are shorter. */
    private static final int CELLS_ASKED = 5;

    private Told() {
    }

    /** An inn in NIGHT n to which a text is told then. */
    static ServesWhatOneDreamt inNight(int n, String text) {
        ServesWhatOneDreamt x = new ServesWhatOneDreamt();
        for (int left = n; left > 0; left -= Math.min(60, left)) {
            x.nights(Math.min(60, left));
        }
        if (!text.isEmpty()) {
            Check.tell(x, text);
        }
        return x;
    }

    /** An inn whose larder has so many of every plate, and to which a text is told then. */
    static ServesWhatOneDreamt stocked(int v, String text) {
        ServesWhatOneDreamt x = new ServesWhatOneDreamt();
        for (int k = 0; k < 10; k++) {
            x.fills(k, v);
        }
        if (!text.isEmpty()) {
            Check.tell(x, text);
        }
        return x;
    }

    /** Sets a number of the inn as it is: no run of 512 calls comes near to what SERVED and LACKING are held at. */
    static void force(ServesWhatOneDreamt x, String field, int v) {
        try {
            Field now = ServesWhatOneDreamt.class.getDeclaredField("now");
            now.setAccessible(true);
            Object inn = now.get(x);
            Field number = inn.getClass().getDeclaredField(field);
            number.setAccessible(true);
            number.setInt(inn, v);
        } catch (ReflectiveOperationException e) {
            throw new IllegalStateException("no number " + field + " in the inn", e);
        }
    }

    /** All that can be asked of an object: its guests, larder and counts, and what its shelves hold. */
    static List<Long> all(ServesWhatOneDreamt x) {
        List<Long> told = new ArrayList<>();
        for (int g = 0; g < x.count(0); g++) {
            for (int what = 0; what < 6; what++) {
                told.add((long) x.guest(g, what));
            }
        }
        for (int k = 0; k < 10; k++) {
            told.add((long) x.larder(k));
        }
        for (int what = 0; what < 6; what++) {
            told.add((long) x.count(what));
        }
        for (int d = 0; d < 8; d++) {
            shelf(x, d, told);
        }
        return told;
    }

    private static void shelf(ServesWhatOneDreamt x, int d, List<Long> told) {
        told.add((long) x.cost(d));
        told.add((long) x.toss(d));
        // Copying none of it tells whether both are rows of one sort, and changes nothing.
        told.add((long) x.copy(d, 0, (d + 1) % 8, 0, 0));
        long element = 0;
        for (int i = 0; i < CELLS_ASKED && element != Check.ILLEGAL_STATE; i++) {
            element = Check.element(x, d, i);
            told.add(element);
        }
    }
}
