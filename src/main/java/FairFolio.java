import java.util.ArrayList;

/**
 * A fair with pavilions, visitors who go by plans, queues with virtual turns, passes with stamps,
 * and postcards of what was seen, which are reprinted by demand.
 */
public final class FairFolio {
    /** None. */
    public static final int NONE = -1;
    /** States of visitors. */
    public static final int IDLE = 0, WAITING = 1, INSIDE = 2;

    private static final int PAVILIONS = 6;
    private static final int VISITORS = 8;
    private static final int MAX_ROOM = 8;
    private static final int MAX_TIME = 60;
    private static final int MAX_ADVANCE = 60;
    private static final int LAST_MINUTE = 1200;
    private static final int TURN_STEP = 5;
    private static final int MAX_THRESHOLD = 1000;

    private static final class Pavilion {
        private final int number;
        private int room = 2;
        private int time = 5;
        private boolean isOpen = true;
        private int stock = 10;
        private int demand = 0;

        private Pavilion(int number) {
            this.number = number;
        }
    }

    private static final class Visitor {
        private final ArrayList<Pavilion> plan = new ArrayList<>();
        private final int[] sent = new int[PAVILIONS];
        private int state = IDLE;
        private int where = NONE;
        private int place = NONE;
        // Kept from the entry on: a later setPavilion does not change a visit that goes on.
        private int visitEnd = NONE;
        private int stamps = 0;
        private int turnMinute = NONE;
        private Pavilion turnPavilion = null;
        private boolean waitsByTurn = false;
    }

    private final Pavilion[] pavilions = new Pavilion[PAVILIONS];
    private final Visitor[] visitors = new Visitor[VISITORS];
    private int now = 0;

    /**
     * The minute 0; all pavilions are open, have room for 2, and take 5 minutes; all visitors are
     * IDLE, without plan, stamps and turns.
     */
    public FairFolio() {
        for (int i = 0; i < PAVILIONS; i++) {
            pavilions[i] = new Pavilion(i);
        }
        for (int i = 0; i < VISITORS; i++) {
            visitors[i] = new Visitor();
        }
    }

    // ---- pavilions and plans

    /** Sets room and time of a pavilion; visits that go on take the time that it had when they began. */
    public void setPavilion(int pavilion, int room, int time)
            throws IndexOutOfBoundsException, IllegalArgumentException {
        Pavilion p = pavilionAt(pavilion);
        if (room < 1 || room > MAX_ROOM || time < 1 || time > MAX_TIME) {
            throw new IllegalArgumentException("room or time is out of range");
        }
        p.room = room;
        p.time = time;
    }

    /** Opens or closes a pavilion; returns how many left its queue by that. */
    public int open(int pavilion, boolean isOpen) throws IndexOutOfBoundsException {
        Pavilion p = pavilionAt(pavilion);
        p.isOpen = isOpen;
        return isOpen ? 0 : emptyQueue(p);
    }

    /** Adds a pavilion at the end of a visitor's plan; returns how many there are in it then. */
    public int plan(int visitor, int pavilion) throws IndexOutOfBoundsException, IllegalStateException {
        Visitor v = visitorAt(visitor);
        Pavilion p = pavilionAt(pavilion);
        if (indexInPlan(v, p) != NONE) {
            throw new IllegalStateException("the pavilion is in the plan");
        }
        v.plan.add(p);
        return v.plan.size();
    }

    /**
     * Takes a pavilion out of a visitor's plan; who waits there without a turn is IDLE by that.
     * Returns how many there are in it then.
     */
    public int drop(int visitor, int pavilion) throws IndexOutOfBoundsException, IllegalStateException {
        Visitor v = visitorAt(visitor);
        Pavilion p = pavilionAt(pavilion);
        int index = indexInPlan(v, p);
        if (index == NONE) {
            throw new IllegalStateException("the pavilion is not in the plan");
        }
        v.plan.remove(index);
        if (isAt(v, WAITING, p) && !v.waitsByTurn) {
            leaveQueue(v);
        }
        return v.plan.size();
    }

    /** A visitor asks for a turn; returns its minute. */
    public int ask(int visitor, int pavilion) throws IndexOutOfBoundsException, IllegalStateException {
        Visitor v = visitorAt(visitor);
        Pavilion p = pavilionAt(pavilion);
        if (v.turnMinute != NONE || !p.isOpen) {
            throw new IllegalStateException("the visitor has a turn, or the pavilion is closed");
        }
        v.turnMinute = firstFreeTurn(p);
        v.turnPavilion = p;
        return v.turnMinute;
    }

    /** Lets minutes pass; returns the minute then. */
    public int advance(int minutes) throws IllegalArgumentException, IllegalStateException {
        if (minutes < 1 || minutes > MAX_ADVANCE) {
            throw new IllegalArgumentException("minutes is out of range");
        }
        if (now + minutes > LAST_MINUTE) {
            throw new IllegalStateException("the minute would be above 1200");
        }
        for (int i = 0; i < minutes; i++) {
            passMinute();
        }
        return now;
    }

    // ---- postcards

    /** A visitor sends a card of a pavilion; returns whether there was one. */
    public boolean send(int visitor, int pavilion) throws IndexOutOfBoundsException, IllegalStateException {
        Visitor v = visitorAt(visitor);
        Pavilion p = pavilionAt(pavilion);
        if (!hasStamp(v, p)) {
            throw new IllegalStateException("the visitor has no stamp of the pavilion");
        }
        if (p.stock == 0) {
            p.demand++;
            return false;
        }
        p.stock--;
        v.sent[p.number]++;
        return true;
    }

    /** Reprints cards where the demand is the threshold or more; returns how many cards are printed. */
    public int reprint(int threshold) throws IllegalArgumentException {
        if (threshold < 1 || threshold > MAX_THRESHOLD) {
            throw new IllegalArgumentException("threshold is out of range");
        }
        int printed = 0;
        for (Pavilion p : pavilions) {
            if (p.demand >= threshold) {
                printed += p.demand;
                p.stock += p.demand;
                p.demand = 0;
            }
        }
        return printed;
    }

    // ---- what there is

    /** Returns the minute. */
    public int minute() {
        return now;
    }

    /** Returns IDLE, WAITING or INSIDE. */
    public int stateOf(int visitor) throws IndexOutOfBoundsException {
        return visitorAt(visitor).state;
    }

    /** Returns the pavilion where a visitor waits or is; NONE if it is IDLE. */
    public int whereIs(int visitor) throws IndexOutOfBoundsException {
        return visitorAt(visitor).where;
    }

    /** Returns the place of a visitor in its queue, from 0; NONE if it does not wait. */
    public int placeOf(int visitor) throws IndexOutOfBoundsException {
        return visitorAt(visitor).place;
    }

    /** Returns the minute of a visitor's turn; NONE if it has none. */
    public int turnOf(int visitor) throws IndexOutOfBoundsException {
        return visitorAt(visitor).turnMinute;
    }

    /** Returns the stamps of a visitor, as a set: the bit p for the pavilion p. */
    public int stamps(int visitor) throws IndexOutOfBoundsException {
        return visitorAt(visitor).stamps;
    }

    /** Returns how many wait at a pavilion. */
    public int queue(int pavilion) throws IndexOutOfBoundsException {
        return countAt(WAITING, pavilionAt(pavilion));
    }

    /** Returns how many are inside a pavilion. */
    public int inside(int pavilion) throws IndexOutOfBoundsException {
        return countAt(INSIDE, pavilionAt(pavilion));
    }

    /** Returns the stock of cards of a pavilion. */
    public int stock(int pavilion) throws IndexOutOfBoundsException {
        return pavilionAt(pavilion).stock;
    }

    /** Returns the demand for cards of a pavilion. */
    public int demand(int pavilion) throws IndexOutOfBoundsException {
        return pavilionAt(pavilion).demand;
    }

    /** Returns how many cards of a pavilion a visitor has sent. */
    public int sent(int visitor, int pavilion) throws IndexOutOfBoundsException {
        Visitor v = visitorAt(visitor);
        Pavilion p = pavilionAt(pavilion);
        return v.sent[p.number];
    }

    // ---- looking up

    private Pavilion pavilionAt(int pavilion) {
        if (pavilion < 0 || pavilion >= PAVILIONS) {
            throw new IndexOutOfBoundsException("no such pavilion");
        }
        return pavilions[pavilion];
    }

    private Visitor visitorAt(int visitor) {
        if (visitor < 0 || visitor >= VISITORS) {
            throw new IndexOutOfBoundsException("no such visitor");
        }
        return visitors[visitor];
    }

    private int indexInPlan(Visitor v, Pavilion p) {
        for (int i = 0; i < v.plan.size(); i++) {
            if (v.plan.get(i) == p) {
                return i;
            }
        }
        return NONE;
    }

    private boolean hasStamp(Visitor v, Pavilion p) {
        return (v.stamps & (1 << p.number)) != 0;
    }

    private boolean isAt(Visitor v, int state, Pavilion p) {
        return v.state == state && v.where == p.number;
    }

    private int countAt(int state, Pavilion p) {
        int count = 0;
        for (Visitor v : visitors) {
            if (isAt(v, state, p)) {
                count++;
            }
        }
        return count;
    }

    private int firstFreeTurn(Pavilion p) {
        int minute = (now / TURN_STEP + 1) * TURN_STEP;
        for (int i = 0; i < VISITORS && isTurnTaken(p, minute); i++) {
            minute += TURN_STEP;
        }
        return minute;
    }

    private boolean isTurnTaken(Pavilion p, int minute) {
        for (Visitor v : visitors) {
            if (v.turnPavilion == p && v.turnMinute == minute) {
                return true;
            }
        }
        return false;
    }

    // ---- a minute

    private void passMinute() {
        now++;
        endVisits();
        takeTurns();
        followPlans();
        letIn();
    }

    private void endVisits() {
        for (Visitor v : visitors) {
            if (v.state == INSIDE && v.visitEnd <= now) {
                v.stamps |= 1 << v.where;
                becomeIdle(v);
            }
        }
    }

    private void takeTurns() {
        for (Visitor v : visitors) {
            // Turns by which somebody waits are of earlier minutes: only the new ones are met here.
            if (v.turnMinute == now) {
                takeTurn(v);
            }
        }
    }

    private void takeTurn(Visitor v) {
        Pavilion p = v.turnPavilion;
        if (v.state == INSIDE || p == null || !p.isOpen) {
            loseTurn(v);
            return;
        }
        if (v.state == WAITING) {
            leaveQueue(v);
        }
        joinQueue(v, p, countByTurn(p));
        v.waitsByTurn = true;
    }

    private void followPlans() {
        for (Visitor v : visitors) {
            if (v.state == IDLE) {
                followPlan(v);
            }
        }
    }

    private void followPlan(Visitor v) {
        for (int i = 0; i < v.plan.size(); i++) {
            Pavilion p = v.plan.get(i);
            if (p.isOpen && !hasStamp(v, p)) {
                joinQueue(v, p, countAt(WAITING, p));
                return;
            }
        }
    }

    private void letIn() {
        for (Pavilion p : pavilions) {
            if (p.isOpen) {
                fillRoom(p);
            }
        }
    }

    private void fillRoom(Pavilion p) {
        // A room made smaller may hold more than it has place for: then nothing is free.
        for (int free = p.room - countAt(INSIDE, p); free > 0; free--) {
            Visitor first = firstInQueue(p);
            if (first == null) {
                return;
            }
            goInside(first, p);
        }
    }

    private void goInside(Visitor v, Pavilion p) {
        leaveQueue(v);
        v.state = INSIDE;
        v.where = p.number;
        v.visitEnd = now + p.time;
    }

    private void becomeIdle(Visitor v) {
        v.state = IDLE;
        v.where = NONE;
        v.place = NONE;
        v.visitEnd = NONE;
    }

    private void loseTurn(Visitor v) {
        v.turnMinute = NONE;
        v.turnPavilion = null;
    }

    // ---- queues: a queue is nothing but the places that those who wait in it bear

    private Visitor firstInQueue(Pavilion p) {
        for (Visitor v : visitors) {
            if (isAt(v, WAITING, p) && v.place == 0) {
                return v;
            }
        }
        return null;
    }

    private int countByTurn(Pavilion p) {
        int count = 0;
        for (Visitor v : visitors) {
            if (isAt(v, WAITING, p) && v.waitsByTurn) {
                count++;
            }
        }
        return count;
    }

    private void joinQueue(Visitor v, Pavilion p, int place) {
        for (Visitor other : visitors) {
            if (isAt(other, WAITING, p) && other.place >= place) {
                other.place++;
            }
        }
        v.state = WAITING;
        v.where = p.number;
        v.place = place;
    }

    private void leaveQueue(Visitor v) {
        for (Visitor other : visitors) {
            if (other.state == WAITING && other.where == v.where && other.place > v.place) {
                other.place--;
            }
        }
        // A turn lasts as long as its visitor waits by it; one for a later minute stays.
        if (v.waitsByTurn) {
            loseTurn(v);
            v.waitsByTurn = false;
        }
        becomeIdle(v);
    }

    private int emptyQueue(Pavilion p) {
        int left = 0;
        for (Visitor v : visitors) {
            if (isAt(v, WAITING, p)) {
                leaveQueue(v);
                left++;
            }
        }
        return left;
    }
}
