/** Fairs and numbers that several tests begin with. */
final class Fairs {
    static final int[] NO_PAVILION = {-1, 6, 7, 32, 256, Integer.MIN_VALUE, Integer.MAX_VALUE};
    static final int[] NO_VISITOR = {-1, 8, 9, 32, 256, Integer.MIN_VALUE, Integer.MAX_VALUE};

    private Fairs() {
    }

    /** A fair in which the visitors from 0 on, so many, have one pavilion with this room and time in plan. */
    static Fair crowd(int visitors, int pavilion, int room, int time) {
        Fair x = new Fair();
        x.setPavilion(pavilion, room, time);
        for (int v = 0; v < visitors; v++) {
            x.plan(v, pavilion);
        }
        return x;
    }

    /** A fair in which visitor 0 has the stamps of 0, 1 and 2, no cards are left, and demand is 1, 2 and 3. */
    static Fair demanded() {
        Fair x = new Fair();
        for (int p = 0; p < 3; p++) {
            x.setPavilion(p, 1, 1);
            x.plan(0, p);
        }
        x.advance(4);
        for (int p = 0; p < 3; p++) {
            for (int i = 0; i < 11 + p; i++) {
                x.send(0, p);
            }
        }
        return x;
    }

    /** Lets minutes pass until this one; there may be more than 60 of them. */
    static void advanceTo(Fair x, int minute) {
        while (x.minute() < minute) {
            x.advance(Math.min(60, minute - x.minute()));
        }
    }

    /** A fair in which nothing has happened until this minute. */
    static Fair at(int minute) {
        Fair x = new Fair();
        advanceTo(x, minute);
        return x;
    }
}
