/** What the tests share: answers that are due, texts put on shelves, and the exit code. */
final class Check {
    /** Stands for an answer that is an exception, where a number is wanted. */
    static final long ILLEGAL_ARGUMENT = Long.MIN_VALUE + 1;
    static final long ILLEGAL_STATE = Long.MIN_VALUE + 2;

    private int wrong = 0;
    private int asked = 0;

    void due(String call, long got, long want) {
        asked++;
        if (got != want) {
            wrong++;
            System.out.println(call + " answered " + got + ", due is " + want);
        }
    }

    void end(String name) {
        System.out.println(name + ": " + asked + " answers, " + wrong + " not as due");
        if (wrong != 0) {
            System.exit(1);
        }
    }

    /** Puts a text on a shelf as a row of bytes. */
    static void write(ServesWhatOneDreamt x, int d, String text) {
        x.row(d, 0, text.length());
        for (int i = 0; i < text.length(); i++) {
            x.put(d, i, text.charAt(i));
        }
    }

    /** Puts numbers on a shelf as a row of a sort. */
    static void write(ServesWhatOneDreamt x, int d, int sort, int... numbers) {
        x.row(d, sort, numbers.length);
        for (int i = 0; i < numbers.length; i++) {
            x.put(d, i, numbers[i]);
        }
    }

    /** Tells a text from shelf 7. */
    static int tell(ServesWhatOneDreamt x, String text) {
        write(x, 7, text);
        return x.inn(7);
    }

    /** A new inn to which a text is told. */
    static ServesWhatOneDreamt inn(String text) {
        ServesWhatOneDreamt x = new ServesWhatOneDreamt();
        tell(x, text);
        return x;
    }

    static long element(ServesWhatOneDreamt x, int d, int i) {
        try {
            return x.element(d, i);
        } catch (IllegalArgumentException e) {
            return ILLEGAL_ARGUMENT;
        } catch (IllegalStateException e) {
            return ILLEGAL_STATE;
        }
    }
}
