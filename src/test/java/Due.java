import java.util.NoSuchElementException;

/** What the tests share: it prints each call that answered otherwise than is due, and ends the test with 1 then. */
final class Due {
    interface Call {
        long answer();
    }

    private final String test;
    private int calls;
    private int wrong;

    Due(String test) {
        this.test = test;
    }

    void is(String call, long want, Call made) {
        calls++;
        String got = said(made);
        if (!got.equals(String.valueOf(want))) tell(call, got, String.valueOf(want));
    }

    void holds(String call, boolean want, boolean got) {
        calls++;
        if (got != want) tell(call, String.valueOf(got), String.valueOf(want));
    }

    void noSuch(String call, Call made) {
        calls++;
        String got = said(made);
        if (!got.equals("throws.NoSuchElementException")) tell(call, got, "throws.NoSuchElementException");
    }

    void illegal(String call, Call made) {
        calls++;
        String got = said(made);
        if (!got.equals("throws.IllegalArgumentException")) tell(call, got, "throws.IllegalArgumentException");
    }

    void like(String call, String want, String got) {
        calls++;
        if (!got.equals(want)) tell(call, got, want);
    }

    void end() {
        System.out.println(test + ": " + calls + " answers looked at, " + wrong + " not as due");
        if (wrong != 0) System.exit(1);
    }

    /** An answer as a text; what the machine itself would throw shows up as its own name. */
    static String said(Call made) {
        try {
            return String.valueOf(made.answer());
        } catch (NoSuchElementException e) {
            return "throws.NoSuchElementException";
        } catch (RuntimeException e) {
            return "throws." + e.getClass().getSimpleName();
        }
    }

    private void tell(String call, String got, String want) {
        wrong++;
        System.out.println(test + ": " + call + " answered " + got + ", due is " + want);
    }

    // ---- texts

    /** Feeds a text, filled up with blanks to whole feeds. */
    static void feed(BlueBag x, String text) {
        for (int at = 0; at < text.length(); at += 20) {
            x.feed(number(text, at), number(text, at + 4), number(text, at + 8), number(text, at + 12),
                number(text, at + 16));
        }
    }

    private static int number(String text, int at) {
        int number = 0;
        for (int i = at; i < at + 4; i++) number = number << 8 | (i < text.length() ? text.charAt(i) & 255 : ' ');
        return number;
    }

    /** A new object that was told a text without a fault. */
    static BlueBag told(String text) {
        BlueBag x = new BlueBag();
        feed(x, text);
        int fault = x.coast(text.length());
        if (fault != 0) throw new IllegalStateException("fault " + fault + " at " + x.fault() + " in " + text);
        return x;
    }

    /** The kind and the place of a text's fault, "0 -1" without. */
    static String faultOf(String text) {
        BlueBag x = new BlueBag();
        feed(x, text);
        int fault = x.coast(text.length());
        return fault + " " + x.fault();
    }

    /** The blue of all cells, with commas. */
    static String blues(BlueBag x) {
        StringBuilder row = new StringBuilder();
        for (int c = 0; c < x.count(0); c++) row.append(c == 0 ? "" : ",").append(x.cell(c, 0));
        return row.toString();
    }

    /** All that count(), cell() and girl() tell, to see what a call changed. */
    static String state(BlueBag x) {
        StringBuilder all = new StringBuilder("counts");
        for (int what = 0; what <= 16; what++) all.append(' ').append(what).append(':').append(x.count(what));
        all.append(" cells");
        for (int c = 0; c < x.count(0); c++) {
            for (int what = 0; what <= 3; what++) all.append(what == 0 ? ' ' : '/').append(x.cell(c, what));
        }
        all.append(" girls");
        for (int g = 0; g < x.count(2); g++) {
            for (int what = 0; what <= 3; what++) all.append(what == 0 ? ' ' : '/').append(x.girl(g, what));
        }
        return all.toString();
    }
}
