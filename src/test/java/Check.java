/** Counts answers that are due and those that are not. */
final class Check {
    private int right = 0;
    private int wrong = 0;

    void is(String call, long got, long due) {
        if (got == due) {
            right++;
        } else {
            wrong++;
            System.out.println(call + " answered " + got + ", due is " + due);
        }
    }

    void yes(String call, boolean got) {
        is(call, got ? 1 : 0, 1);
    }

    void no(String call, boolean got) {
        is(call, got ? 1 : 0, 0);
    }

    /** Puts a text on the desk's tape, behind what stands there. */
    static void tell(CoverDesk desk, String text) {
        int start = desk.look(8);
        for (int i = 0; i < text.length(); i += 20) {
            int[] n = new int[5];
            for (int k = 0; k < 20; k++) {
                int c = i + k < text.length() ? text.charAt(i + k) : 0;
                n[k / 4] = n[k / 4] << 8 | c;
            }
            desk.feed(n[0], n[1], n[2], n[3], n[4]);
        }
        desk.end(start + text.length());
    }

    static int book(CoverDesk desk, String text) {
        tell(desk, text);
        return desk.book();
    }

    static int day(CoverDesk desk, String text) {
        tell(desk, text);
        return desk.day();
    }

    static CoverDesk desk(String book) {
        CoverDesk desk = new CoverDesk();
        if (book(desk, book) < 0) {
            throw new IllegalStateException("the test's own book has fault " + desk.fault(0) + " at " + desk.fault(1)
                    + ": " + book);
        }
        return desk;
    }

    void close(String name) {
        System.out.println(name + ": " + right + " answers as due, " + wrong + " not");
        if (wrong != 0) {
            System.exit(1);
        }
    }
}
