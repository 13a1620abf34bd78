/**
 * The boundary cases that "Terms" names for visitors, a minute, virtual turns and closing: each test bears
 * the sentence that it is about.
 */
public final class FairFolioMinuteEdgesTest {
    private static final int NONE = FairFolio.NONE;
    private static final int IDLE = FairFolio.IDLE;
    private static final int WAITING = FairFolio.WAITING;
    private static final int INSIDE = FairFolio.INSIDE;
    private static final Class<?> STATE = IllegalStateException.class;

    private FairFolioMinuteEdgesTest() {
    }

    public static void main(String[] args) {
        timeFromZero();
        roomForSome();
        roomMadeSmallerOrLarger();
        planEmptyAndFull();
        stampTwice();
        minute1TimeTaken();
        minute1ManyAtOnce();
        minute2IdleGoes();
        minute2WaitingElsewhereGoes();
        minute2WaitingThereGoes();
        minute2InsideLosesIt();
        minute2VisitEndsBeforeIt();
        minute2ClosedLosesIt();
        minute2AheadAndBehind();
        minute2OnlyTurnsWait();
        minute2ManyPavilions();
        minute2WaitsByTheTurn();
        minute3NoneInPlan();
        minute3FirstOpenWithoutStamp();
        minute3EndOfTheQueue();
        minute3LostTurnThenPlan();
        minute4FirstGoesIn();
        minute4TurnTakesTheLastRoom();
        minute4TurnUsedUp();
        minute4TimeAtTheBeginning();
        minute4ClosedLetsNobodyIn();
        turnMinutes();
        turnMinutesAtTheEnd();
        turnsOfEverybody();
        turnsOfEachPavilion();
        oneTurnAtATime();
        closingCounts();
        closingIsNoMinute();
        closingLosesTurnsWaitedBy();
        closingKeepsLaterTurns();
        closingLeavesWhoIsInside();
        Check.end();
    }

    /** A fair with room for 1 at this pavilion and an hour's visit, in which visitor 7 is inside from minute 1. */
    private static Fair occupied(int pavilion) {
        Fair x = new Fair();
        x.setPavilion(pavilion, 1, 60);
        x.plan(7, pavilion);
        x.advance(1);
        Check.visitor("occupied", x, 7, INSIDE, pavilion, NONE);
        return x;
    }

    /** The visitors, told by their numbers, wait in just this order, and nobody else does. */
    private static void queueIs(String what, Fair x, int pavilion, int... order) {
        Check.same(what + ": how many wait", x.queue(pavilion), order.length);
        for (int place = 0; place < order.length; place++) {
            Check.visitor(what, x, order[place], WAITING, pavilion, place);
        }
    }

    /** "Time is told in minutes, from 0." "its number is 1 more than before." */
    private static void timeFromZero() {
        Fair x = new Fair();
        Check.same("from 0", x.minute(), 0);
        for (int minute = 1; minute <= 61; minute++) {
            Check.same("1 more", x.advance(1), minute);
            Check.same("1 more told", x.minute(), minute);
        }
    }

    /** "A pavilion has room for some visitors at a time": nobody, one less, just full, one too many. */
    private static void roomForSome() {
        for (int room = 1; room <= 8; room++) {
            for (int visitors = 0; visitors <= 8; visitors++) {
                Fair x = Fairs.crowd(visitors, 5, room, 60);
                x.advance(1);
                String what = "room " + room + " for " + visitors;
                Check.same(what + ": inside", x.inside(5), Math.min(room, visitors));
                Check.same(what + ": queue", x.queue(5), Math.max(0, visitors - room));
                for (int v = room; v < visitors; v++) {
                    Check.visitor(what, x, v, WAITING, 5, v - room);
                }
            }
        }
    }

    /** "as long as there is room": a room made smaller than what is inside, equal to it, and larger. */
    private static void roomMadeSmallerOrLarger() {
        Fair x = Fairs.crowd(8, 0, 1, 60);
        x.advance(1);
        x.setPavilion(0, 3, 10);
        x.advance(1);
        Check.same("three of room 3", x.inside(0), 3);
        x.setPavilion(0, 3, 10);
        x.advance(1);
        Check.same("room 3 is full", x.inside(0), 3);
        x.setPavilion(0, 2, 10);
        x.advance(8);
        Check.same("more inside than room 2", x.inside(0), 3);
        x.advance(1);
        Check.same("two left at 12, one of room 2 came", x.inside(0), 2);
        queueIs("the others", x, 0, 4, 5, 6, 7);
        x.setPavilion(0, 8, 10);
        Check.same("no minute passed", x.inside(0), 2);
        x.advance(1);
        Check.same("all go in at once", x.inside(0), 6);
        Check.same("and nobody waits", x.queue(0), 0);
    }

    /** "a plan, a row of up to 6 pavilions, in which none comes twice": empty, full, and one more. */
    private static void planEmptyAndFull() {
        Fair x = new Fair();
        for (int p = 0; p < 6; p++) {
            int pavilion = p;
            Check.fails("none in the empty plan", x, STATE, () -> x.drop(3, pavilion));
        }
        for (int p = 0; p < 6; p++) {
            Check.same("one more", x.plan(3, p), p + 1);
        }
        for (int p = 0; p < 6; p++) {
            int pavilion = p;
            Check.fails("full: each is in it", x, STATE, () -> x.plan(3, pavilion));
        }
        for (int p = 0; p < 6; p++) {
            Check.same("one less", x.drop(3, p), 5);
            int pavilion = p;
            Check.fails("not twice out of it", x, STATE, () -> x.drop(3, pavilion));
            Check.same("full again", x.plan(3, p), 6);
        }
        for (int p = 5; p >= 0; p--) {
            Check.same("down to none", x.drop(3, p), p);
        }
        x.advance(60);
        Check.visitor("an empty plan leads nowhere", x, 3, IDLE, NONE, NONE);
        Check.same("and again from 1", x.plan(3, 5), 1);
    }

    /** "A visit that has been made ends with a stamp": the second stamp of a pavilion is the first one. */
    private static void stampTwice() {
        for (int p = 0; p < 6; p++) {
            Fair x = Fairs.crowd(1, p, 1, 1);
            x.advance(2);
            Check.same("first", x.stamps(0), 1 << p);
            x.ask(0, p);
            x.advance(3);
            Check.visitor("again", x, 0, INSIDE, p, NONE);
            Check.same("meanwhile", x.stamps(0), 1 << p);
            x.advance(1);
            Check.visitor("and out", x, 0, IDLE, NONE, NONE);
            Check.same("second", x.stamps(0), 1 << p);
        }
    }

    /** Minute, 1: "whose visit has taken its time by then": a minute early, just then, for each time. */
    private static void minute1TimeTaken() {
        for (int time = 1; time <= 60; time++) {
            Fair x = Fairs.crowd(1, 2, 1, time);
            x.advance(1);
            Check.visitor("begins: " + time, x, 0, INSIDE, 2, NONE);
            Fairs.advanceTo(x, time);
            Check.visitor("a minute early: " + time, x, 0, INSIDE, 2, NONE);
            Check.same("no stamp yet: " + time, x.stamps(0), 0);
            x.advance(1);
            Check.visitor("just then: " + time, x, 0, IDLE, NONE, NONE);
            Check.same("with a stamp: " + time, x.stamps(0), 4);
            Check.same("nobody is inside: " + time, x.inside(2), 0);
        }
    }

    /** Minute, 1: "For each visitor, by rising numbers, who is INSIDE": all eight at once. */
    private static void minute1ManyAtOnce() {
        Fair x = Fairs.crowd(8, 4, 8, 60);
        x.advance(60);
        Check.same("all inside", x.inside(4), 8);
        x.advance(1);
        Check.same("all out", x.inside(4), 0);
        for (int v = 0; v < 8; v++) {
            Check.visitor("out", x, v, IDLE, NONE, NONE);
            Check.same("each with its stamp", x.stamps(v), 16);
        }
    }

    /** Minute, 2: "if it is IDLE": to an empty queue of a full pavilion, and into one with room. */
    private static void minute2IdleGoes() {
        Fair x = occupied(0);
        x.ask(3, 0);
        x.ask(4, 1);
        x.advance(3);
        Check.visitor("a minute early", x, 3, IDLE, NONE, NONE);
        Check.visitor("a minute early there", x, 4, IDLE, NONE, NONE);
        x.advance(1);
        queueIs("to the empty queue", x, 0, 3);
        Check.visitor("in at once", x, 4, INSIDE, 1, NONE);
        Check.same("nobody waits there", x.queue(1), 0);
    }

    /** Minute, 2: "(away from where it waits ..)": from the first, a middle and the last place. */
    private static void minute2WaitingElsewhereGoes() {
        for (int who = 0; who < 5; who++) {
            Fair x = occupied(0);
            x.setPavilion(1, 1, 60);
            x.plan(6, 1);
            for (int v = 0; v < 5; v++) {
                x.plan(v, 0);
            }
            x.ask(who, 1);
            x.advance(3);
            queueIs("before", x, 0, 0, 1, 2, 3, 4);
            x.advance(1);
            queueIs("where it goes", x, 1, who);
            int[] left = new int[4];
            for (int i = 0; i < 4; i++) {
                left[i] = i < who ? i : i + 1;
            }
            queueIs("what it leaves by " + who, x, 0, left);
        }
    }

    /** Minute, 2: "(.. the same pavilion too)": from the first, a middle and the last place. */
    private static void minute2WaitingThereGoes() {
        int[][] due = {{0, 1, 2}, {1, 0, 2}, {2, 0, 1}};
        for (int who = 0; who < 3; who++) {
            Fair x = occupied(3);
            for (int v = 0; v < 3; v++) {
                x.plan(v, 3);
            }
            x.ask(who, 3);
            x.advance(3);
            queueIs("before", x, 3, 0, 1, 2);
            x.advance(1);
            queueIs("to the front by " + who, x, 3, due[who]);
            Check.same("it waits by the turn", x.turnOf(who), 5);
            int other = (who + 1) % 3;
            x.ask(other, 3);
            x.advance(5);
            Check.same("behind the first turn", x.placeOf(other), 1);
            Check.same("ahead of it still", x.placeOf(who), 0);
        }
    }

    /** Minute, 2: "Otherwise the turn is lost": who is inside, the same pavilion or another, a minute too long. */
    private static void minute2InsideLosesIt() {
        for (int p = 0; p < 2; p++) {
            Fair x = Fairs.crowd(1, 0, 1, 5);
            x.advance(1);
            Check.same("asks inside", x.ask(0, p), 5);
            x.advance(3);
            Check.same("has it until then", x.turnOf(0), 5);
            x.advance(1);
            Check.same("lost by who is inside", x.turnOf(0), NONE);
            Check.visitor("stays inside", x, 0, INSIDE, 0, NONE);
            x.advance(1);
            Check.visitor("the turn is gone when the visit ends", x, 0, IDLE, NONE, NONE);
            Check.same("nobody came by it", x.queue(p) + x.inside(p), 0);
            Check.same("another may be had", x.ask(0, p), 10);
        }
    }

    /** Minute, 1 comes before 2: a visit that ends in the minute of the turn does not lose it. */
    private static void minute2VisitEndsBeforeIt() {
        for (int p = 0; p < 2; p++) {
            Fair x = Fairs.crowd(1, 0, 1, 4);
            x.advance(1);
            x.ask(0, p);
            x.advance(3);
            Check.visitor("inside until then", x, 0, INSIDE, 0, NONE);
            x.advance(1);
            Check.same("the stamp", x.stamps(0), 1);
            Check.visitor("in by the turn", x, 0, INSIDE, p, NONE);
            Check.same("used up", x.turnOf(0), NONE);
            x.advance(3);
            Check.visitor("a visit of its own", x, 0, INSIDE, p, NONE);
        }
    }

    /** Minute, 2: "and the pavilion is open": closed in the last minute, and opened in the last minute. */
    private static void minute2ClosedLosesIt() {
        Fair x = occupied(0);
        x.plan(2, 0);
        x.ask(1, 1);
        x.ask(2, 1);
        x.advance(3);
        x.open(1, false);
        Check.same("not lost before its minute", x.turnOf(1), 5);
        x.advance(1);
        Check.same("lost in its minute", x.turnOf(1), NONE);
        Check.visitor("goes nowhere", x, 1, IDLE, NONE, NONE);
        Check.same("the other has the next", x.turnOf(2), 10);
        x.open(1, true);
        x.advance(1);
        Check.visitor("lost though it is open again", x, 1, IDLE, NONE, NONE);
        x.open(1, false);
        x.advance(3);
        queueIs("waits elsewhere", x, 0, 2);
        x.open(1, true);
        x.advance(1);
        Check.visitor("opened in time", x, 2, INSIDE, 1, NONE);
        Fair y = occupied(0);
        y.plan(2, 0);
        y.ask(2, 1);
        y.open(1, false);
        y.advance(4);
        Check.same("lost by who waits elsewhere", y.turnOf(2), NONE);
        queueIs("who keeps its place", y, 0, 2);
    }

    /** Minute, 2: "ahead of all who do not wait by a turn there, behind those who do". */
    private static void minute2AheadAndBehind() {
        Fair x = occupied(2);
        x.plan(0, 2);
        x.plan(1, 2);
        x.ask(6, 2);
        x.ask(5, 2);
        x.ask(1, 2);
        x.ask(4, 2);
        x.advance(3);
        queueIs("no turn yet", x, 2, 0, 1);
        x.advance(1);
        queueIs("one turn", x, 2, 6, 0, 1);
        x.advance(5);
        queueIs("two turns, by minutes and not by numbers", x, 2, 6, 5, 0, 1);
        x.advance(5);
        queueIs("three turns", x, 2, 6, 5, 1, 0);
        x.advance(5);
        queueIs("four turns", x, 2, 6, 5, 1, 4, 0);
        x.open(1, false);
        x.plan(3, 1);
        x.plan(3, 2);
        x.advance(1);
        queueIs("who comes by plan is last", x, 2, 6, 5, 1, 4, 0, 3);
    }

    /** Minute, 2: a queue in which all wait by turns, of which the document asks nothing else. */
    private static void minute2OnlyTurnsWait() {
        Fair x = occupied(1);
        for (int v = 6; v >= 0; v--) {
            Check.same("asks", x.ask(v, 1), 5 * (7 - v));
        }
        x.advance(34);
        queueIs("all by turns", x, 1, 6, 5, 4, 3, 2, 1, 0);
        for (int v = 0; v < 7; v++) {
            Check.same("each has its turn", x.turnOf(v), 5 * (7 - v));
        }
    }

    /** Minute, 2: "For each visitor, by rising numbers, who has a virtual turn for this minute": many of them. */
    private static void minute2ManyPavilions() {
        Fair x = new Fair();
        for (int v = 0; v < 6; v++) {
            Check.same("each pavilion gives it", x.ask(v, 5 - v), 5);
        }
        x.advance(5);
        for (int v = 0; v < 6; v++) {
            Check.visitor("all in the same minute", x, v, INSIDE, 5 - v, NONE);
            Check.same("all used up", x.turnOf(v), NONE);
        }
    }

    /** Minute, 2: "it waits by the turn then, and has it as long as it does." */
    private static void minute2WaitsByTheTurn() {
        Fair x = occupied(0);
        x.ask(3, 0);
        x.advance(4);
        Check.same("now", x.turnOf(3), 5);
        Check.fails("has it", x, STATE, () -> x.ask(3, 4));
        x.plan(3, 1);
        x.advance(55);
        Check.same("past", x.turnOf(3), 5);
        queueIs("a plan does not lead it away", x, 0, 3);
        Check.fails("has it still", x, STATE, () -> x.ask(3, 4));
        x.advance(1);
        Check.same("no more", x.turnOf(3), NONE);
        Check.visitor("inside", x, 3, INSIDE, 0, NONE);
    }

    /** Minute, 3: "if there is one": an empty plan, all closed, all stamped, and the rest closed. */
    private static void minute3NoneInPlan() {
        Fair x = new Fair();
        for (int p = 0; p < 6; p++) {
            x.setPavilion(p, 8, 1);
            x.open(p, false);
            x.plan(1, p);
        }
        x.plan(2, 5);
        x.advance(1);
        Check.visitor("an empty plan", x, 0, IDLE, NONE, NONE);
        Check.visitor("all closed", x, 1, IDLE, NONE, NONE);
        x.open(5, true);
        x.advance(1);
        Check.visitor("the last of six", x, 1, INSIDE, 5, NONE);
        Check.visitor("the only one", x, 2, INSIDE, 5, NONE);
        x.advance(1);
        Check.visitor("the rest is closed", x, 1, IDLE, NONE, NONE);
        Check.visitor("all stamped", x, 2, IDLE, NONE, NONE);
        Check.same("its stamp", x.stamps(2), 32);
        x.advance(60);
        Check.visitor("all stamped for good", x, 2, IDLE, NONE, NONE);
        x.drop(2, 5);
        x.plan(2, 5);
        x.advance(1);
        Check.visitor("stamped, though planned anew", x, 2, IDLE, NONE, NONE);
    }

    /** Minute, 3: "the first pavilion of its plan that is open and of which it has no stamp". */
    private static void minute3FirstOpenWithoutStamp() {
        for (int first = 0; first < 6; first++) {
            Fair x = new Fair();
            for (int i = 0; i < 6; i++) {
                x.plan(0, 5 - i);
                x.open(5 - i, i >= first);
            }
            x.advance(1);
            Check.visitor("the first open one, after " + first, x, 0, INSIDE, 5 - first, NONE);
            x.advance(5);
            Check.visitor("then the next", x, 0, first == 5 ? IDLE : INSIDE, first == 5 ? NONE : 4 - first, NONE);
        }
    }

    /** Minute, 3: "it goes to the end of the queue", "by rising numbers". */
    private static void minute3EndOfTheQueue() {
        Fair x = occupied(0);
        x.plan(5, 0);
        x.advance(1);
        x.plan(3, 0);
        x.plan(6, 0);
        x.plan(4, 0);
        x.advance(1);
        queueIs("rising numbers behind who came before", x, 0, 5, 3, 4, 6);
        x.open(0, false);
        x.open(0, true);
        x.advance(1);
        queueIs("all anew", x, 0, 3, 4, 5, 6);
        Fair y = occupied(0);
        y.setPavilion(1, 1, 3);
        y.plan(0, 1);
        y.plan(0, 0);
        y.advance(3);
        y.plan(1, 0);
        y.advance(1);
        queueIs("whose visit has ended goes in the same minute, by its number", y, 0, 0, 1);
    }

    /** Minute, 3: a turn that is lost in 2 leaves its visitor to its plan in the same minute. */
    private static void minute3LostTurnThenPlan() {
        Fair x = new Fair();
        x.ask(2, 4);
        x.advance(4);
        x.open(4, false);
        x.plan(2, 4);
        x.plan(2, 3);
        x.advance(1);
        Check.same("lost", x.turnOf(2), NONE);
        Check.visitor("by its plan", x, 2, INSIDE, 3, NONE);
    }

    /** Minute, 4: "as long as there is room, the first one in its queue goes INSIDE": one, some, all of them. */
    private static void minute4FirstGoesIn() {
        for (int room = 1; room <= 8; room++) {
            Fair x = Fairs.crowd(8, 1, room, 2);
            for (int minute = 1, gone = 0; gone < 8; minute += 2, gone += room) {
                Fairs.advanceTo(x, minute);
                for (int v = 0; v < 8; v++) {
                    boolean inside = v >= gone && v < gone + room;
                    int state = v < gone ? IDLE : inside ? INSIDE : WAITING;
                    Check.visitor("room " + room + " at " + minute, x, v, state,
                            state == IDLE ? NONE : 1, state == WAITING ? v - gone - room : NONE);
                }
            }
        }
    }

    /** Minute, 1, 2 and 4: the place that becomes free is for who comes by a turn, not for who waited first. */
    private static void minute4TurnTakesTheLastRoom() {
        Fair x = Fairs.crowd(3, 0, 1, 4);
        x.ask(7, 0);
        x.advance(4);
        queueIs("before", x, 0, 1, 2);
        x.advance(1);
        Check.visitor("in by the turn", x, 7, INSIDE, 0, NONE);
        queueIs("who waited waits on", x, 0, 1, 2);
        Fair y = Fairs.crowd(3, 0, 2, 4);
        y.ask(7, 0);
        y.advance(5);
        Check.visitor("the first of two", y, 7, INSIDE, 0, NONE);
        Check.visitor("the second of two", y, 2, INSIDE, 0, NONE);
    }

    /** Minute, 4: "(and a turn by which it waited is used up)": only that one. */
    private static void minute4TurnUsedUp() {
        Fair x = Fairs.crowd(2, 0, 1, 1);
        x.advance(1);
        x.ask(1, 0);
        x.advance(1);
        Check.visitor("in by plan", x, 1, INSIDE, 0, NONE);
        Check.same("a turn for later is not used up", x.turnOf(1), 5);
        x.advance(3);
        Check.visitor("in by the turn", x, 1, INSIDE, 0, NONE);
        Check.same("used up", x.turnOf(1), NONE);
        Check.same("asks again while inside", x.ask(1, 0), 10);
    }

    /** Minute, 4: "its visit begins at this minute", and takes what the pavilion takes then. */
    private static void minute4TimeAtTheBeginning() {
        Fair x = Fairs.crowd(3, 0, 1, 2);
        x.advance(2);
        x.setPavilion(0, 1, 60);
        x.advance(1);
        Check.same("begun before", x.stamps(0), 1);
        Check.visitor("begins now", x, 1, INSIDE, 0, NONE);
        x.setPavilion(0, 1, 1);
        x.advance(59);
        Check.visitor("59 of 60 minutes", x, 1, INSIDE, 0, NONE);
        x.advance(1);
        Check.same("60 of 60 minutes", x.stamps(1), 1);
        Check.visitor("the next begins", x, 2, INSIDE, 0, NONE);
        x.advance(1);
        Check.same("1 of 1 minute", x.stamps(2), 1);
    }

    /** Minute, 4: "if it is open": rooms that become free stay free. */
    private static void minute4ClosedLetsNobodyIn() {
        Fair x = Fairs.crowd(4, 0, 2, 3);
        x.ask(5, 0);
        x.advance(1);
        x.open(0, false);
        x.advance(3);
        Check.same("both are out", x.inside(0), 0);
        x.advance(56);
        Check.same("nobody in", x.inside(0), 0);
        Check.same("nobody waits", x.queue(0), 0);
        x.open(0, true);
        x.advance(1);
        Check.visitor("open: the first without a stamp", x, 2, INSIDE, 0, NONE);
        Check.visitor("open: the second", x, 3, INSIDE, 0, NONE);
    }

    /** "one turn for each 5th minute (5, 10, 15 and so on)", "the first such minute, later than now". */
    private static void turnMinutes() {
        for (int now = 0; now <= 61; now++) {
            Fair x = new Fair();
            for (int i = 0; i < now; i++) {
                x.advance(1);
            }
            int due = 5;
            while (due <= now) {
                due += 5;
            }
            Check.same("at " + now, x.ask(0, 0), due);
            Check.same("had at " + now, x.turnOf(0), due);
            Check.same("the next at " + now, x.ask(1, 0), due + 5);
        }
    }

    /** Turns near the minute 1200: the last that comes, and the first that does not. */
    private static void turnMinutesAtTheEnd() {
        int[] nows = {1190, 1194, 1195, 1196, 1199, 1200};
        int[] dues = {1195, 1195, 1200, 1200, 1200, 1205};
        for (int i = 0; i < nows.length; i++) {
            Fair x = Fairs.at(nows[i]);
            Check.same("at " + nows[i], x.ask(4, 5), dues[i]);
            Fairs.advanceTo(x, 1200);
            boolean came = dues[i] <= 1200;
            Check.visitor("came " + dues[i], x, 4, dues[i] == 1200 ? INSIDE : IDLE,
                    dues[i] == 1200 ? 5 : NONE, NONE);
            Check.same("turn " + dues[i], x.turnOf(4), came ? NONE : dues[i]);
        }
    }

    /** "that nobody has for this pavilion": all eight have one, and one that has come is nobody's. */
    private static void turnsOfEverybody() {
        Fair x = new Fair();
        for (int v = 7; v >= 0; v--) {
            Check.same("eight turns", x.ask(v, 3), 40 - 5 * v);
        }
        x.advance(5);
        Check.visitor("the first came", x, 7, INSIDE, 3, NONE);
        Check.same("behind seven others", x.ask(7, 3), 45);
        x.advance(4);
        Check.fails("it has one", x, STATE, () -> x.ask(7, 3));
        x.advance(1);
        Check.same("the second's next", x.ask(6, 3), 50);
        Fair y = occupied(3);
        y.ask(0, 3);
        y.advance(4);
        Check.same("waits by 5", y.turnOf(0), 5);
        Check.same("which is in nobody's way", y.ask(1, 3), 10);
        y.advance(5);
        y.open(3, false);
        y.open(3, true);
        Check.same("nor are lost ones", y.ask(0, 3), 15);
    }

    /** "A pavilion gives one turn for each 5th minute": each pavilion its own. */
    private static void turnsOfEachPavilion() {
        Fair x = new Fair();
        for (int p = 0; p < 6; p++) {
            Check.same("its first", x.ask(p, p), 5);
        }
        Check.same("its second", x.ask(6, 5), 10);
        Check.same("another's second", x.ask(7, 0), 10);
    }

    /** "A visitor can have one turn at a time": and another when it was used up, or lost in each way. */
    private static void oneTurnAtATime() {
        Fair used = new Fair();
        used.ask(0, 0);
        Check.fails("has one here", used, STATE, () -> used.ask(0, 0));
        Check.fails("has one there", used, STATE, () -> used.ask(0, 1));
        used.advance(4);
        Check.fails("has one until then", used, STATE, () -> used.ask(0, 1));
        used.advance(1);
        Check.same("used up", used.ask(0, 1), 10);
        Fair closed = occupied(0);
        closed.ask(0, 0);
        closed.advance(4);
        Check.fails("waits by one", closed, STATE, () -> closed.ask(0, 1));
        closed.open(0, false);
        Check.same("lost by closing", closed.ask(0, 1), 10);
        closed.open(1, false);
        Check.fails("keeps a later one", closed, STATE, () -> closed.ask(0, 2));
        closed.advance(5);
        Check.same("lost because it was closed", closed.ask(0, 2), 15);
        Fair inside = occupied(0);
        inside.ask(7, 1);
        inside.advance(4);
        Check.same("lost by who is inside", inside.ask(7, 1), 10);
    }

    /** "When a pavilion is closed, those who wait in its queue are IDLE": none, one, seven of them, and twice. */
    private static void closingCounts() {
        for (int waiting = 0; waiting <= 7; waiting++) {
            Fair x = occupied(4);
            x.setPavilion(3, 1, 60);
            for (int v = 0; v < 7; v++) {
                x.plan(v, v < waiting ? 4 : 3);
            }
            x.advance(1);
            Check.same("opening what is open", x.open(4, true), 0);
            Check.same("waiting before", x.queue(4), waiting);
            Check.same("how many left", x.open(4, false), waiting);
            Check.same("none waits", x.queue(4), 0);
            for (int v = 0; v < waiting; v++) {
                Check.visitor("idle", x, v, IDLE, NONE, NONE);
            }
            for (int v = waiting; v < 7; v++) {
                boolean first = v == waiting;
                Check.visitor("elsewhere as before", x, v, first ? INSIDE : WAITING, 3, first ? NONE : v - waiting - 1);
            }
            Check.same("closing again", x.open(4, false), 0);
            Check.same("opening", x.open(4, true), 0);
            Check.same("opening again", x.open(4, true), 0);
        }
    }

    /** Closing and opening let no minute pass: who left comes back only by the next one, at the end. */
    private static void closingIsNoMinute() {
        Fair x = occupied(0);
        x.plan(4, 0);
        x.plan(4, 1);
        x.advance(1);
        x.plan(2, 0);
        x.advance(1);
        queueIs("before", x, 0, 4, 2);
        Check.same("closed", x.open(0, false), 2);
        Check.visitor("not on its way", x, 4, IDLE, NONE, NONE);
        Check.same("open again", x.open(0, true), 0);
        Check.visitor("not back", x, 4, IDLE, NONE, NONE);
        x.advance(1);
        queueIs("back by rising numbers", x, 0, 2, 4);
        x.open(0, false);
        x.advance(1);
        Check.visitor("to the next of its plan", x, 4, INSIDE, 1, NONE);
        Check.visitor("has no other", x, 2, IDLE, NONE, NONE);
    }

    /** "and turns by which they waited are lost": of one, and of several. */
    private static void closingLosesTurnsWaitedBy() {
        Fair x = occupied(2);
        x.plan(6, 2);
        x.ask(0, 2);
        x.ask(1, 2);
        x.advance(9);
        queueIs("before", x, 2, 0, 1, 6);
        Check.same("three left", x.open(2, false), 3);
        Check.same("the first's is lost", x.turnOf(0), NONE);
        Check.same("the second's is lost", x.turnOf(1), NONE);
        x.open(2, true);
        x.plan(1, 2);
        x.advance(1);
        queueIs("no turn puts it ahead", x, 2, 1, 6);
        Check.visitor("no turn and no plan", x, 0, IDLE, NONE, NONE);
        x.ask(6, 2);
        x.advance(4);
        queueIs("who has a new turn is ahead of who lost one", x, 2, 6, 1);
    }

    /** "Turns for later minutes are kept": of who is idle, waits there, waits elsewhere, or is inside. */
    private static void closingKeepsLaterTurns() {
        Fair x = occupied(0);
        x.setPavilion(1, 1, 60);
        x.plan(1, 0);
        x.plan(2, 1);
        x.plan(3, 1);
        x.advance(1);
        int[] askers = {0, 1, 3, 7, 2};
        for (int i = 0; i < askers.length; i++) {
            Check.same("asks", x.ask(askers[i], 0), 5 + 5 * i);
        }
        Check.same("one left", x.open(0, false), 1);
        for (int i = 0; i < askers.length; i++) {
            Check.same("kept by " + askers[i], x.turnOf(askers[i]), 5 + 5 * i);
        }
        x.advance(3);
        Check.same("lost in its minute, closed", x.turnOf(0), NONE);
        x.open(0, true);
        x.advance(5);
        queueIs("the next counts, open again", x, 0, 1);
        Check.same("it waits by it", x.turnOf(1), 10);
        x.advance(5);
        queueIs("and the next, from another queue", x, 0, 1, 3);
        Check.same("which is empty now", x.queue(1), 0);
        x.advance(5);
        Check.same("lost by who is inside there", x.turnOf(7), NONE);
        x.advance(5);
        Check.same("lost by who is inside elsewhere", x.turnOf(2), NONE);
        queueIs("nobody else came", x, 0, 1, 3);
    }

    /** "those who are inside stay until their visits have taken their time." */
    private static void closingLeavesWhoIsInside() {
        Fair x = Fairs.crowd(2, 5, 2, 4);
        x.plan(0, 0);
        x.advance(1);
        Check.same("nobody left a queue", x.open(5, false), 0);
        Check.same("two inside", x.inside(5), 2);
        x.advance(3);
        Check.same("two inside until then", x.inside(5), 2);
        x.advance(1);
        Check.same("nobody then", x.inside(5), 0);
        Check.same("a stamp", x.stamps(0), 32);
        Check.same("another stamp", x.stamps(1), 32);
        Check.visitor("on by the plan", x, 0, INSIDE, 0, NONE);
        Check.visitor("nothing in the plan", x, 1, IDLE, NONE, NONE);
    }
}
