/**
 * The boundary cases of the calls, promise by promise: the smallest and the largest arguments, those beyond
 * them, empty and full, and each refused call, with the order of the exceptions and all that it leaves.
 */
public final class FairFolioCallEdgesTest {
    private static final int NONE = FairFolio.NONE;
    private static final int IDLE = FairFolio.IDLE;
    private static final int WAITING = FairFolio.WAITING;
    private static final int INSIDE = FairFolio.INSIDE;
    private static final Class<?> INDEX = IndexOutOfBoundsException.class;
    private static final Class<?> ARGUMENT = IllegalArgumentException.class;
    private static final Class<?> STATE = IllegalStateException.class;
    // So few that the day, all that is refused after it, and a look at everything are 512 calls at the most.
    private static final int DAY_STEPS = 12;
    private static final int[] NO_ROOM = {0, 9, -1, 256, 257, Integer.MIN_VALUE, Integer.MAX_VALUE};
    private static final int[] NO_TIME = {0, 61, -1, 256, 257, Integer.MIN_VALUE, Integer.MAX_VALUE};
    private static final int[] NO_MINUTES = {0, 61, -1, -60, 256, Integer.MIN_VALUE, Integer.MAX_VALUE};
    private static final int[] NO_THRESHOLD = {0, 1001, -1, 65536, Integer.MIN_VALUE, Integer.MAX_VALUE};

    /** A call that takes a visitor and a pavilion. */
    private interface PairCall {
        void make(Fair x, int visitor, int pavilion);
    }

    /** A call that takes one number. */
    private interface NumberCall {
        void make(Fair x, int number);
    }

    private FairFolioCallEdgesTest() {
    }

    public static void main(String[] args) {
        firstAndLastNumbers();
        noSuchNumbers();
        noSuchNumbersComeFirst();
        promise1FairsOfTheirOwn();
        promise2SmallestAndLargest();
        promise2Refused();
        promise3ClosedStaysClosed();
        promise4InThePlan();
        promise5NotInThePlan();
        promise5WithAndWithoutATurn();
        promise6HasATurn();
        promise6Closed();
        promise7OutOfRange();
        promise7UpTo1200();
        promise7Above1200();
        promise7OneOrMany();
        promise8NoStamp();
        promise8TheLastCard();
        promise8CardsOfEachPavilion();
        promise9OutOfRange();
        promise9Threshold();
        promise9NothingToPrint();
        promise9PrintedAndGone();
        promise19DemandOf512Calls();
        promise13PlacesFromZero();
        promise14PastNowAndLater();
        promise15AllStamps();
        refusedCallsLeaveTheDay();
        Check.end();
    }

    /** "There are the pavilions 0 to 5 and the visitors 0 to 7": each call takes the first and the last. */
    private static void firstAndLastNumbers() {
        for (int v = 0; v <= 7; v += 7) {
            for (int p = 0; p <= 5; p += 5) {
                Fair x = new Fair();
                String what = "visitor " + v + ", pavilion " + p;
                x.setPavilion(p, 1, 1);
                Check.same(what + ": close", x.open(p, false), 0);
                Check.same(what + ": open", x.open(p, true), 0);
                Check.same(what + ": plan", x.plan(v, p), 1);
                Check.same(what + ": drop", x.drop(v, p), 0);
                Check.same(what + ": plan again", x.plan(v, p), 1);
                x.advance(1);
                Check.visitor(what, x, v, INSIDE, p, NONE);
                Check.same(what + ": inside", x.inside(p), 1);
                Check.same(what + ": queue", x.queue(p), 0);
                Check.same(what + ": ask", x.ask(v, p), 5);
                Check.same(what + ": turn", x.turnOf(v), 5);
                x.advance(1);
                Check.visitor(what, x, v, IDLE, NONE, NONE);
                Check.same(what + ": stamps", x.stamps(v), 1 << p);
                Check.same(what + ": send", x.send(v, p), true);
                Check.same(what + ": sent", x.sent(v, p), 1);
                Check.same(what + ": stock", x.stock(p), 9);
                Check.same(what + ": demand", x.demand(p), 0);
            }
        }
    }

    private static Fair busy() {
        Fair x = Fairs.crowd(5, 0, 2, 3);
        x.plan(7, 5);
        x.ask(5, 0);
        x.advance(4);
        x.ask(6, 3);
        x.send(0, 0);
        x.open(4, false);
        return x;
    }

    /** "if there is no such visitor or pavilion": each call, in a fair in which much goes on. */
    private static void noSuchNumbers() {
        PairCall[] pairs = {Fair::plan, Fair::drop, Fair::ask, Fair::send, Fair::sent};
        for (int i = 0; i < pairs.length; i++) {
            noSuchPair("call " + i, busy(), pairs[i]);
        }
        Fair x = busy();
        NumberCall[] ofVisitors = {Fair::stateOf, Fair::whereIs, Fair::placeOf,
            Fair::turnOf, Fair::stamps};
        noSuchNumber("visitor", x, ofVisitors, Fairs.NO_VISITOR);
        NumberCall[] ofPavilions = {Fair::queue, Fair::inside, Fair::stock, Fair::demand,
            (y, p) -> y.open(p, true), (y, p) -> y.open(p, false), (y, p) -> y.setPavilion(p, 1, 1)};
        noSuchNumber("pavilion", x, ofPavilions, Fairs.NO_PAVILION);
    }

    private static void noSuchPair(String what, Fair x, PairCall call) {
        for (int v : Fairs.NO_VISITOR) {
            for (int p = 0; p < 6; p++) {
                int known = p;
                Check.fails(what + ", visitor " + v, x, INDEX, () -> call.make(x, v, known));
            }
            for (int p : Fairs.NO_PAVILION) {
                Check.fails(what + ", both " + v + ", " + p, x, INDEX, () -> call.make(x, v, p));
            }
        }
        for (int p : Fairs.NO_PAVILION) {
            for (int v = 0; v < 8; v++) {
                int known = v;
                Check.fails(what + ", pavilion " + p, x, INDEX, () -> call.make(x, known, p));
            }
        }
    }

    private static void noSuchNumber(String what, Fair x, NumberCall[] calls, int[] wrong) {
        for (int i = 0; i < calls.length; i++) {
            NumberCall call = calls[i];
            for (int number : wrong) {
                Check.fails(what + " call " + i + ": " + number, x, INDEX, () -> call.make(x, number));
            }
        }
    }

    /** "if several exceptions apply, the one that its @throws lines name first is thrown." */
    private static void noSuchNumbersComeFirst() {
        Fair x = busy();
        Check.fails("no pavilion, no room", x, INDEX, () -> x.setPavilion(6, 0, 1));
        Check.fails("no pavilion, no time", x, INDEX, () -> x.setPavilion(-1, 1, 61));
        Check.fails("no pavilion, neither", x, INDEX, () -> x.setPavilion(6, 9, 0));
        Check.fails("no pavilion, has a turn", x, INDEX, () -> x.ask(6, 6));
        Check.fails("no visitor, closed", x, INDEX, () -> x.ask(8, 4));
        Check.fails("no visitor, in nobody's plan", x, INDEX, () -> x.drop(8, 4));
        Check.fails("no pavilion, in nobody's plan", x, INDEX, () -> x.drop(0, 6));
        Check.fails("no pavilion, of which it has no stamp", x, INDEX, () -> x.send(0, 6));
        Check.fails("no visitor, who has no stamp", x, INDEX, () -> x.send(-1, 0));
        Fair y = Fairs.at(1200);
        for (int wrong : NO_MINUTES) {
            Check.fails("out of range, and at the end: " + wrong, y, ARGUMENT, () -> y.advance(wrong));
        }
    }

    /** Promise 1: what happens in one fair leaves the others as they are, and a new one is new. */
    private static void promise1FairsOfTheirOwn() {
        Fair before = new Fair();
        String untouched = Check.picture(before);
        Fairs.demanded();
        Fair x = busy();
        Check.same("the one before", Check.picture(before), untouched);
        Check.same("the one after", Check.picture(new Fair()), untouched);
        Check.same("the busy one is not", Check.picture(x).equals(untouched), false);
        for (int p = 0; p < 6; p++) {
            Check.same("nothing in the plan", before.plan(1, p), p + 1);
        }
    }

    /** Promise 2: room 1 and 8, time 1 and 60, for each pavilion. */
    private static void promise2SmallestAndLargest() {
        int[][] settings = {{1, 1}, {1, 60}, {8, 1}, {8, 60}};
        for (int p = 0; p < 6; p++) {
            for (int[] setting : settings) {
                Fair x = Fairs.crowd(8, p, setting[0], setting[1]);
                x.advance(1);
                Check.same("room " + setting[0], x.inside(p), setting[0]);
                Fairs.advanceTo(x, setting[1]);
                Check.same("before time " + setting[1], x.stamps(0), 0);
                x.advance(1);
                Check.same("after time " + setting[1], x.stamps(0), 1 << p);
            }
        }
    }

    /** Promise 2: "if room or time is out of range": each of them, both, and neither is taken then. */
    private static void promise2Refused() {
        Fair x = Fairs.crowd(5, 0, 3, 7);
        x.advance(1);
        for (int room : NO_ROOM) {
            Check.fails("room " + room, x, ARGUMENT, () -> x.setPavilion(0, room, 1));
            Check.fails("room " + room + " with time 60", x, ARGUMENT, () -> x.setPavilion(0, room, 60));
            for (int time : NO_TIME) {
                Check.fails("room " + room + ", time " + time, x, ARGUMENT, () -> x.setPavilion(0, room, time));
            }
        }
        for (int time : NO_TIME) {
            Check.fails("time " + time, x, ARGUMENT, () -> x.setPavilion(0, 1, time));
            Check.fails("time " + time + " with room 8", x, ARGUMENT, () -> x.setPavilion(0, 8, time));
        }
        x.advance(1);
        Check.same("the room is as it was", x.inside(0), 3);
        x.advance(6);
        Check.same("two more come", x.inside(0), 2);
        x.advance(6);
        Check.same("the time is as it was", x.inside(0), 2);
        x.advance(1);
        Check.same("to the minute", x.inside(0), 0);
    }

    /** Promise 3: who closes what is closed, or opens what is open, does nothing. */
    private static void promise3ClosedStaysClosed() {
        for (int p = 0; p < 6; p++) {
            Fair x = Fairs.crowd(3, p, 1, 60);
            Check.same("nobody waits yet", x.open(p, false), 0);
            Check.same("closed twice", x.open(p, false), 0);
            x.setPavilion(p, 1, 60);
            x.advance(1);
            Check.same("setPavilion does not open it", x.inside(p), 0);
            Check.same("open", x.open(p, true), 0);
            Check.same("open twice", x.open(p, true), 0);
            x.advance(1);
            Check.same("one in", x.inside(p), 1);
            Check.same("opening sends nobody away", x.open(p, true), 0);
            Check.same("two wait", x.queue(p), 2);
            Check.same("two leave", x.open(p, false), 2);
            for (int other = 0; other < 6; other++) {
                Check.same("only this one is closed", x.plan(7, other), other + 1);
            }
            x.advance(1);
            Check.visitor("goes elsewhere", x, 7, INSIDE, p == 0 ? 1 : 0, NONE);
        }
    }

    /** Promise 4: "if it is in the plan": while idle, waiting, inside, and with its stamp. */
    private static void promise4InThePlan() {
        Fair x = Fairs.crowd(2, 3, 1, 2);
        Check.fails("idle", x, STATE, () -> x.plan(0, 3));
        x.advance(1);
        Check.fails("inside", x, STATE, () -> x.plan(0, 3));
        Check.fails("waiting", x, STATE, () -> x.plan(1, 3));
        x.advance(2);
        Check.fails("with its stamp", x, STATE, () -> x.plan(0, 3));
        x.open(3, false);
        Check.fails("closed", x, STATE, () -> x.plan(0, 3));
        Check.same("a closed one may be planned", x.plan(2, 3), 1);
        Check.same("planned while it is inside", x.plan(1, 0), 2);
        Check.same("no refused call is in the plan", x.drop(0, 3), 0);
        Check.same("what has its stamp may be planned", x.plan(0, 3), 1);
    }

    /** Promise 5: "if it is not in the plan": never, another's, not any more, though it waits or is there. */
    private static void promise5NotInThePlan() {
        Fair x = Fairs.crowd(1, 0, 1, 60);
        x.ask(1, 0);
        x.ask(2, 1);
        x.advance(5);
        Check.visitor("waits without a plan", x, 1, WAITING, 0, 0);
        Check.fails("waits there by a turn", x, STATE, () -> x.drop(1, 0));
        Check.visitor("inside without a plan", x, 2, INSIDE, 1, NONE);
        Check.fails("is inside", x, STATE, () -> x.drop(2, 1));
        Check.fails("another's", x, STATE, () -> x.drop(3, 0));
        Check.fails("never", x, STATE, () -> x.drop(0, 5));
        Check.same("the only one", x.drop(0, 0), 0);
        Check.visitor("who is inside stays", x, 0, INSIDE, 0, NONE);
        Check.fails("not any more", x, STATE, () -> x.drop(0, 0));
    }

    /** Promise 5: "who waits there without a turn is IDLE by that": there, elsewhere, with and without one. */
    private static void promise5WithAndWithoutATurn() {
        for (int who = 1; who < 4; who++) {
            Fair x = Fairs.crowd(4, 2, 1, 60);
            x.plan(who, 4);
            x.advance(1);
            Check.same("where it does not wait", x.drop(who, 4), 1);
            Check.visitor("waits on", x, who, WAITING, 2, who - 1);
            Check.same("where it waits", x.drop(who, 2), 0);
            Check.visitor("idle", x, who, IDLE, NONE, NONE);
            Check.same("the queue is shorter", x.queue(2), 2);
            for (int v = 1; v < 4; v++) {
                if (v != who) {
                    Check.visitor("closed up", x, v, WAITING, 2, v > who ? v - 2 : v - 1);
                }
            }
            x.advance(60);
            Check.visitor("it does not come back", x, who, IDLE, NONE, NONE);
        }
        Fair y = Fairs.crowd(3, 2, 1, 60);
        y.ask(2, 2);
        y.ask(1, 3);
        y.advance(4);
        Check.same("with a turn for elsewhere", y.drop(1, 2), 0);
        Check.visitor("which is no turn there", y, 1, IDLE, NONE, NONE);
        Check.same("and is kept", y.turnOf(1), 5);
        y.advance(1);
        Check.same("by the turn there", y.drop(2, 2), 0);
        Check.visitor("it waits on", y, 2, WAITING, 2, 0);
        Check.visitor("the other came by its own", y, 1, INSIDE, 3, NONE);
        y.open(2, false);
        y.open(2, true);
        y.advance(1);
        Check.visitor("what was dropped does not lead back", y, 2, IDLE, NONE, NONE);
    }

    /** Promise 6: "if the visitor has a turn": here, elsewhere, now, and past. */
    private static void promise6HasATurn() {
        Fair x = Fairs.crowd(1, 0, 1, 20);
        x.ask(1, 0);
        for (int minute = 0; minute <= 20; minute++) {
            Fairs.advanceTo(x, minute);
            for (int p = 0; p < 6; p++) {
                int pavilion = p;
                Check.fails("has one at " + minute, x, STATE, () -> x.ask(1, pavilion));
            }
        }
        x.advance(1);
        Check.visitor("used up", x, 1, INSIDE, 0, NONE);
        Check.same("a new one", x.ask(1, 0), 25);
    }

    /** Promise 6: "or the pavilion is closed": whether the visitor is idle, inside it, or has a turn. */
    private static void promise6Closed() {
        Fair x = Fairs.crowd(2, 5, 1, 60);
        x.advance(1);
        x.ask(2, 5);
        x.open(5, false);
        Check.fails("inside", x, STATE, () -> x.ask(0, 5));
        Check.fails("sent away", x, STATE, () -> x.ask(1, 5));
        Check.fails("has a turn of it", x, STATE, () -> x.ask(2, 5));
        Check.fails("idle", x, STATE, () -> x.ask(3, 5));
        Check.same("another is open", x.ask(3, 4), 5);
        x.open(5, true);
        Check.same("no refused call has a turn", x.ask(1, 5), 10);
    }

    /** Promise 7: minutes "1 to 60": 0, 61 and numbers far away are refused, each other is taken. */
    private static void promise7OutOfRange() {
        Fair x = busy();
        for (int wrong : NO_MINUTES) {
            Check.fails("minutes " + wrong, x, ARGUMENT, () -> x.advance(wrong));
        }
        for (int minutes = 1; minutes <= 60; minutes++) {
            Fair y = new Fair();
            Check.same("minutes " + minutes, y.advance(minutes), minutes);
            Check.same("minute " + minutes, y.minute(), minutes);
        }
    }

    /** Promise 7: the minute may be 1200, and what it brings comes. */
    private static void promise7UpTo1200() {
        for (int minutes = 1; minutes <= 60; minutes++) {
            Fair x = Fairs.at(1200 - minutes);
            Check.same("just 1200 by " + minutes, x.advance(minutes), 1200);
        }
        Fair x = Fairs.at(1198);
        x.setPavilion(0, 1, 1);
        x.plan(0, 0);
        x.plan(1, 0);
        x.ask(2, 0);
        Check.same("1200", x.advance(2), 1200);
        Check.same("a stamp in the last minute", x.stamps(0), 1);
        Check.visitor("a turn in the last minute", x, 2, INSIDE, 0, NONE);
        Check.visitor("who waits on", x, 1, WAITING, 0, 0);
    }

    /** Promise 7: "if the minute would be above 1200": by one, by many, and no part of them passes. */
    private static void promise7Above1200() {
        for (int minutes = 1; minutes <= 60; minutes++) {
            Fair x = Fairs.at(1201 - minutes);
            x.plan(0, 0);
            int tooMany = minutes;
            Check.fails("1201 by " + minutes, x, STATE, () -> x.advance(tooMany));
            if (minutes > 1) {
                Check.same("one less", x.advance(minutes - 1), 1200);
                Check.same("inside for 5 of them", x.stateOf(0), minutes < 7 ? INSIDE : IDLE);
            }
        }
        Fair x = Fairs.at(1200);
        for (int minutes = 1; minutes <= 60; minutes++) {
            int tooMany = minutes;
            Check.fails("at the end " + minutes, x, STATE, () -> x.advance(tooMany));
        }
        Check.same("other calls go on", x.plan(0, 0), 1);
    }

    /** Promise 7: sixty minutes at once are sixty times one. */
    private static void promise7OneOrMany() {
        Fair one = busy();
        Fair many = busy();
        for (int i = 0; i < 60; i++) {
            one.advance(1);
        }
        many.advance(60);
        Check.same("the same", Check.picture(one), Check.picture(many));
    }

    /** Promise 8: "if the visitor has no stamp of it": idle, waiting, inside, another's; none of it is demand. */
    private static void promise8NoStamp() {
        Fair x = Fairs.crowd(2, 0, 1, 5);
        Check.fails("idle", x, STATE, () -> x.send(0, 0));
        x.advance(5);
        Check.fails("inside, a minute early", x, STATE, () -> x.send(0, 0));
        Check.fails("waiting", x, STATE, () -> x.send(1, 0));
        x.advance(1);
        Check.same("just then", x.send(0, 0), true);
        Check.fails("another's stamp", x, STATE, () -> x.send(1, 0));
        for (int p = 1; p < 6; p++) {
            int pavilion = p;
            Check.fails("a stamp of another", x, STATE, () -> x.send(0, pavilion));
        }
        for (int i = 0; i < 9; i++) {
            x.send(0, 0);
        }
        Check.fails("no stamp and no card", x, STATE, () -> x.send(1, 0));
        Check.same("no demand", x.demand(0), 0);
    }

    /** "Each pavilion has a stock of cards, 10 at first": the tenth, the eleventh, and after a reprint. */
    private static void promise8TheLastCard() {
        Fair x = Fairs.crowd(3, 0, 3, 1);
        x.advance(2);
        for (int i = 1; i <= 10; i++) {
            Check.same("card " + i, x.send(i % 3, 0), true);
            Check.same("left after " + i, x.stock(0), 10 - i);
            Check.same("no demand at " + i, x.demand(0), 0);
        }
        for (int i = 1; i <= 4; i++) {
            Check.same("no card " + i, x.send(i % 3, 0), false);
            Check.same("nothing left", x.stock(0), 0);
            Check.same("demand", x.demand(0), i);
        }
        Check.same("visitor 0 sent", x.sent(0, 0), 3);
        Check.same("visitor 1 sent", x.sent(1, 0), 4);
        Check.same("visitor 2 sent", x.sent(2, 0), 3);
        Check.same("as many as the demand", x.reprint(4), 4);
        for (int i = 1; i <= 4; i++) {
            Check.same("reprinted card " + i, x.send(2, 0), true);
        }
        Check.same("none again", x.send(2, 0), false);
        Check.same("a demand of its own", x.demand(0), 1);
        Check.same("visitor 2 sent those too", x.sent(2, 0), 7);
    }

    /** Promises 8, 18, 19 and 20: a card of one pavilion is none of another. */
    private static void promise8CardsOfEachPavilion() {
        Fair x = new Fair();
        for (int p = 0; p < 6; p++) {
            x.setPavilion(p, 1, 1);
            x.plan(7, p);
        }
        x.advance(7);
        for (int p = 0; p < 6; p++) {
            for (int i = 0; i <= 2 * p; i++) {
                Check.same("card " + i + " of " + p, x.send(7, p), i < 10);
            }
        }
        for (int p = 0; p < 6; p++) {
            int cards = Math.min(10, 2 * p + 1);
            Check.same("sent of " + p, x.sent(7, p), cards);
            Check.same("stock of " + p, x.stock(p), 10 - cards);
            Check.same("demand of " + p, x.demand(p), p == 5 ? 1 : 0);
            Check.same("by nobody else " + p, x.sent(6, p), 0);
        }
    }

    /** Promise 9: threshold "1 to 1000": 0, 1001 and numbers far away are refused. */
    private static void promise9OutOfRange() {
        Fair x = Fairs.demanded();
        for (int wrong : NO_THRESHOLD) {
            Check.fails("threshold " + wrong, x, ARGUMENT, () -> x.reprint(wrong));
        }
        Check.same("1000", x.reprint(1000), 0);
        Check.same("1", x.reprint(1), 6);
    }

    /** "each pavilion with a demand of the threshold or more": one less, just that, one more. */
    private static void promise9Threshold() {
        int[] printed = {6, 5, 3, 0};
        for (int threshold = 1; threshold <= 4; threshold++) {
            Fair x = Fairs.demanded();
            Check.same("threshold " + threshold, x.reprint(threshold), printed[threshold - 1]);
            for (int p = 0; p < 3; p++) {
                boolean met = p + 1 >= threshold;
                Check.same("stock of " + p, x.stock(p), met ? p + 1 : 0);
                Check.same("demand of " + p, x.demand(p), met ? 0 : p + 1);
            }
            for (int p = 3; p < 6; p++) {
                Check.same("no demand, no card: " + p, x.stock(p), 10);
            }
        }
    }

    /** Promise 9: without demand nothing is printed, whether cards are left or not. */
    private static void promise9NothingToPrint() {
        Fair x = new Fair();
        Check.same("a new fair", x.reprint(1), 0);
        Check.same("stock of a new fair", x.stock(0), 10);
        Fair y = Fairs.crowd(1, 0, 1, 1);
        y.advance(2);
        for (int i = 0; i < 10; i++) {
            y.send(0, 0);
        }
        Check.same("sold out, but nobody asked", y.reprint(1), 0);
        Check.same("still none", y.stock(0), 0);
        y.send(0, 0);
        Check.same("one asked", y.reprint(1), 1);
    }

    /** "and its demand is 0 then": what was below the threshold grows on. */
    private static void promise9PrintedAndGone() {
        Fair x = Fairs.demanded();
        Check.same("3 is met", x.reprint(3), 3);
        Check.same("once", x.reprint(3), 0);
        x.send(0, 0);
        x.send(0, 0);
        Check.same("1 and 2 more", x.demand(0), 3);
        Check.same("met too", x.reprint(3), 3);
        Check.same("2 stays", x.demand(1), 2);
        Check.same("one of the reprinted", x.send(0, 0), true);
        Check.same("left", x.stock(0), 2);
        Check.same("nothing to add", x.reprint(1), 2);
        Check.same("left as it was", x.stock(0), 2);
    }

    /** "An object is used for at most 512 calls": as much demand as they can make, and its reprint. */
    private static void promise19DemandOf512Calls() {
        Fair x = Fairs.crowd(1, 5, 1, 1);
        x.advance(2);
        // setPavilion, plan and advance were three calls; demand, reprint and stock are to be the last three.
        for (int call = 4; call <= 509; call++) {
            Check.same("call " + call, x.send(0, 5), call < 14);
        }
        Check.same("demand", x.demand(5), 496);
        Check.same("reprint", x.reprint(496), 496);
        Check.same("stock", x.stock(5), 496);
    }

    /** Promise 13: "from 0; NONE if it does not wait": idle, first, last, inside. */
    private static void promise13PlacesFromZero() {
        Fair x = Fairs.crowd(8, 0, 1, 60);
        for (int v = 0; v < 8; v++) {
            Check.same("idle", x.placeOf(v), NONE);
        }
        x.advance(1);
        Check.same("inside", x.placeOf(0), NONE);
        Check.same("first", x.placeOf(1), 0);
        Check.same("last", x.placeOf(7), 6);
        x.open(0, false);
        Check.same("idle again", x.placeOf(7), NONE);
    }

    /** Promise 14: "which is past or now while it waits by the turn; NONE if it has none." */
    private static void promise14PastNowAndLater() {
        Fair x = Fairs.crowd(1, 1, 1, 9);
        Check.same("none", x.turnOf(3), NONE);
        x.ask(3, 1);
        for (int minute = 0; minute <= 9; minute++) {
            Fairs.advanceTo(x, minute);
            Check.same("later, now or past at " + minute, x.turnOf(3), 5);
            Check.same("waits at " + minute, x.stateOf(3), minute < 5 ? IDLE : WAITING);
        }
        x.advance(1);
        Check.same("none again", x.turnOf(3), NONE);
        Check.same("nobody else has one", x.turnOf(0), NONE);
    }

    /** Promise 15: "as a set: the bit p for the pavilion p": none, each, all of them. */
    private static void promise15AllStamps() {
        Fair x = new Fair();
        for (int p = 0; p < 6; p++) {
            x.setPavilion(p, 8, 1);
            for (int v = 0; v < 8; v++) {
                x.plan(v, p);
            }
        }
        x.advance(1);
        int due = 0;
        for (int p = 0; p < 6; p++) {
            Check.same("so far", x.stamps(7), due);
            x.advance(1);
            due += 1 << p;
        }
        for (int v = 0; v < 8; v++) {
            Check.same("all six", x.stamps(v), 63);
            Check.visitor("done", x, v, IDLE, NONE, NONE);
        }
    }

    /**
     * "A call that throws an exception changes nothing", also of what no call tells: of two fairs with the same
     * day, one gets all refused calls at the end of the day, and the next hours are the same in both.
     */
    private static void refusedCallsLeaveTheDay() {
        for (int first = 0; first < 60; first += DAY_STEPS) {
            for (int steps = 0; steps <= DAY_STEPS; steps++) {
                Day quiet = new Day(first, steps);
                Day bothered = new Day(first, steps);
                bothered.refusals();
                String what = "from " + first + ", " + steps + " steps";
                Check.same(what, Check.picture(bothered.fair), Check.picture(quiet.fair));
                quiet.evening();
                bothered.evening();
                Check.same(what + ", hours later", Check.picture(bothered.fair), Check.picture(quiet.fair));
            }
        }
        Day last = new Day(0, DAY_STEPS);
        Fairs.advanceTo(last.fair, 1200);
        last.refusals();
        Check.fails("advance 1", last.fair, STATE, () -> last.fair.advance(1));
    }

    /** A fair of which plans and closed pavilions are known, so that it is known what it must refuse. */
    private static final class Day {
        private final Fair fair = new Fair();
        private final boolean[][] planned = new boolean[8][6];
        private final boolean[] closed = new boolean[6];

        private Day(int first, int steps) {
            for (int i = 0; i < steps; i++) {
                step(first + i);
            }
        }

        /** Opens all pavilions in turn, so that rooms, times, plans and turns can be seen in what comes. */
        private void evening() {
            for (int p = 0; p < 6; p++) {
                fair.open(p, true);
                fair.advance(1 + p);
            }
        }

        private void step(int step) {
            int v = step * 5 % 8;
            int p = step * 7 % 6;
            fair.setPavilion(p, 1 + step % 2, 1 + step % 9);
            if (planned[v][p]) {
                fair.drop(v, p);
            } else {
                fair.plan(v, p);
            }
            planned[v][p] = !planned[v][p];
            int asker = step * 3 % 8;
            int asked = step % 6;
            if (fair.turnOf(asker) == NONE && !closed[asked]) {
                fair.ask(asker, asked);
            }
            int changed = step / 3 % 6;
            closed[changed] = step % 3 == 1;
            fair.open(changed, !closed[changed]);
            fair.advance(1 + step % 4);
            for (int sender = 0; sender < 8; sender++) {
                if ((fair.stamps(sender) & (1 << p)) != 0) {
                    fair.send(sender, p);
                }
            }
            if (step % 10 == 9) {
                fair.reprint(2);
            }
        }

        private void refusals() {
            for (int i = 0; i < 8; i++) {
                int v = i;
                for (int j = 0; j < 6; j++) {
                    int p = j;
                    if (planned[v][p]) {
                        Check.fails("plan " + v + ", " + p, fair, STATE, () -> fair.plan(v, p));
                    } else {
                        Check.fails("drop " + v + ", " + p, fair, STATE, () -> fair.drop(v, p));
                    }
                    if (closed[p] || fair.turnOf(v) != NONE) {
                        Check.fails("ask " + v + ", " + p, fair, STATE, () -> fair.ask(v, p));
                    }
                    if ((fair.stamps(v) & (1 << p)) == 0) {
                        Check.fails("send " + v + ", " + p, fair, STATE, () -> fair.send(v, p));
                    }
                }
                Check.fails("plan " + v + ", 6", fair, INDEX, () -> fair.plan(v, 6));
                Check.fails("ask " + v + ", -1", fair, INDEX, () -> fair.ask(v, -1));
            }
            for (int i = 0; i < 6; i++) {
                int p = i;
                Check.fails("room 9 of " + p, fair, ARGUMENT, () -> fair.setPavilion(p, 9, 1));
                Check.fails("time 0 of " + p, fair, ARGUMENT, () -> fair.setPavilion(p, 1, 0));
                Check.fails("plan 8, " + p, fair, INDEX, () -> fair.plan(8, p));
                Check.fails("ask -1, " + p, fair, INDEX, () -> fair.ask(-1, p));
            }
            Check.fails("open 6", fair, INDEX, () -> fair.open(6, false));
            Check.fails("advance 0", fair, ARGUMENT, () -> fair.advance(0));
            Check.fails("advance 61", fair, ARGUMENT, () -> fair.advance(61));
            Check.fails("reprint 0", fair, ARGUMENT, () -> fair.reprint(0));
            Check.fails("reprint 1001", fair, ARGUMENT, () -> fair.reprint(1001));
        }
    }
}
