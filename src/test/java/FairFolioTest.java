/** Tests of the promises 1 to 20, each by ordinary inputs, by the document's edges, and by wrong inputs. */
public final class FairFolioTest {
    private static final int NONE = FairFolio.NONE;
    private static final int IDLE = FairFolio.IDLE;
    private static final int WAITING = FairFolio.WAITING;
    private static final int INSIDE = FairFolio.INSIDE;
    private static final Class<?> INDEX = IndexOutOfBoundsException.class;
    private static final Class<?> ARGUMENT = IllegalArgumentException.class;
    private static final Class<?> STATE = IllegalStateException.class;

    private FairFolioTest() {
    }

    public static void main(String[] args) {
        promise1NewObject();
        promise2SetPavilion();
        promise2VisitsThatGoOn();
        promise2SmallerAndLargerRoom();
        promise3Open();
        promise3InsideStay();
        promise3TurnsByClosing();
        promise4Plan();
        promise5Drop();
        promise5DropWhileWaiting();
        promise5DropWhileWaitingByTurn();
        promise6Ask();
        promise6AskAtTheEnd();
        promise7Advance();
        promise7OrderWithinAMinute();
        promise7TurnGoesAhead();
        promise7TurnFromAnotherQueue();
        promise7TurnInTheSameQueue();
        promise7TurnsAreLost();
        promise7UsedTurnIsForgotten();
        promise7PlanSkips();
        promise8Send();
        promise9Reprint();
        promise10Minute();
        promise11And12StateAndWhere();
        promise13PlaceOf();
        promise14TurnOf();
        promise15Stamps();
        promise16And17QueueAndInside();
        promise18To20Cards();
        wrongNumbers();
        readmeExample();
        Check.end();
    }

    private static void promise1NewObject() {
        Fair x = new Fair();
        Check.same("1: minute", x.minute(), 0);
        for (int v = 0; v < 8; v++) {
            Check.visitor("1", x, v, IDLE, NONE, NONE);
            Check.same("1: turn", x.turnOf(v), NONE);
            Check.same("1: stamps", x.stamps(v), 0);
            for (int p = 0; p < 6; p++) {
                Check.same("1: sent", x.sent(v, p), 0);
            }
        }
        for (int p = 0; p < 6; p++) {
            Check.same("1: queue", x.queue(p), 0);
            Check.same("1: inside", x.inside(p), 0);
            Check.same("1: stock", x.stock(p), 10);
            Check.same("1: demand", x.demand(p), 0);
            roomAndTimeAtFirst(p);
        }
        Check.same("1: nobody goes anywhere without a plan", x.advance(60), 60);
        Check.visitor("1: after an hour", x, 7, IDLE, NONE, NONE);
    }

    private static void roomAndTimeAtFirst(int p) {
        Fair x = new Fair();
        for (int v = 0; v < 3; v++) {
            Check.same("1: without a plan", x.plan(v, p), 1);
        }
        x.advance(1);
        Check.same("1: open, with room for 2", x.inside(p), 2);
        Check.same("1: the third waits", x.queue(p), 1);
        x.advance(4);
        Check.same("1: no stamp after 4 minutes", x.stamps(0), 0);
        x.advance(1);
        Check.same("1: a stamp after 5 minutes", x.stamps(0), 1 << p);
    }

    private static void promise2SetPavilion() {
        for (int room = 1; room <= 8; room++) {
            Fair x = Fairs.crowd(8, 3, room, 60);
            x.advance(1);
            Check.same("2: inside with room " + room, x.inside(3), room);
            Check.same("2: queue with room " + room, x.queue(3), 8 - room);
        }
        for (int time : new int[] {1, 2, 59, 60}) {
            Fair x = Fairs.crowd(1, 0, 1, time);
            x.advance(1);
            if (time > 1) {
                x.advance(time - 1);
            }
            Check.same("2: still inside before " + time, x.stateOf(0), INSIDE);
            x.advance(1);
            Check.same("2: idle after " + time, x.stateOf(0), IDLE);
            Check.same("2: stamp after " + time, x.stamps(0), 1);
        }
        Fair y = Fairs.crowd(3, 0, 2, 5);
        for (int p : Fairs.NO_PAVILION) {
            Check.fails("2: pavilion " + p, y, INDEX, () -> y.setPavilion(p, 1, 1));
            Check.fails("2: pavilion and room " + p, y, INDEX, () -> y.setPavilion(p, 0, 61));
        }
        for (int room : new int[] {0, 9, -1, Integer.MIN_VALUE, Integer.MAX_VALUE}) {
            Check.fails("2: room " + room, y, ARGUMENT, () -> y.setPavilion(0, room, 1));
        }
        for (int time : new int[] {0, 61, -1, Integer.MIN_VALUE, Integer.MAX_VALUE}) {
            Check.fails("2: time " + time, y, ARGUMENT, () -> y.setPavilion(0, 1, time));
        }
        y.advance(1);
        Check.same("2: what was refused changed no room", y.inside(0), 2);
        y.advance(5);
        Check.same("2: what was refused changed no time", y.stamps(1), 1);
    }

    private static void promise2VisitsThatGoOn() {
        Fair x = Fairs.crowd(2, 0, 1, 10);
        x.advance(1);
        x.setPavilion(0, 1, 2);
        x.advance(9);
        Check.same("2: a visit that goes on keeps its longer time", x.stateOf(0), INSIDE);
        x.advance(1);
        Check.same("2: and ends by it", x.stamps(0), 1);
        Check.visitor("2: the next goes in", x, 1, INSIDE, 0, NONE);
        x.setPavilion(0, 1, 60);
        x.advance(2);
        Check.same("2: a visit that goes on keeps its shorter time", x.stamps(1), 1);
    }

    private static void promise2SmallerAndLargerRoom() {
        Fair x = Fairs.crowd(8, 0, 4, 3);
        x.advance(1);
        x.setPavilion(0, 1, 3);
        Check.same("2: a smaller room sends nobody out", x.inside(0), 4);
        x.advance(2);
        Check.same("2: nobody goes in meanwhile", x.queue(0), 4);
        x.advance(1);
        Check.same("2: then the smaller room is filled", x.inside(0), 1);
        x.setPavilion(0, 3, 3);
        Check.same("2: a larger room is filled only when a minute passes", x.inside(0), 1);
        x.advance(1);
        Check.same("2: when it passes, it is", x.inside(0), 3);
        Check.visitor("2: by the order of the queue", x, 6, INSIDE, 0, NONE);
        Check.visitor("2: the last waits", x, 7, WAITING, 0, 0);
    }

    private static void promise3Open() {
        Fair x = Fairs.crowd(5, 2, 2, 5);
        x.plan(4, 3);
        Check.same("3: opening what is open", x.open(2, true), 0);
        x.advance(1);
        Check.same("3: opening makes nobody leave", x.open(2, true), 0);
        Check.same("3: three left", x.open(2, false), 3);
        Check.same("3: the queue is empty", x.queue(2), 0);
        for (int v = 2; v < 5; v++) {
            Check.visitor("3: sent away", x, v, IDLE, NONE, NONE);
        }
        Check.same("3: closing what is closed", x.open(2, false), 0);
        x.advance(1);
        Check.visitor("3: goes to the next of the plan", x, 4, INSIDE, 3, NONE);
        Check.visitor("3: has nowhere to go", x, 3, IDLE, NONE, NONE);
        Check.same("3: opening again", x.open(2, true), 0);
        Check.visitor("3: opening moves nobody", x, 3, IDLE, NONE, NONE);
        x.advance(1);
        Check.visitor("3: comes again when a minute passes", x, 2, WAITING, 2, 0);
        Check.visitor("3: behind the first", x, 3, WAITING, 2, 1);
        for (int p : Fairs.NO_PAVILION) {
            Check.fails("3: open " + p, x, INDEX, () -> x.open(p, true));
            Check.fails("3: close " + p, x, INDEX, () -> x.open(p, false));
        }
    }

    private static void promise3InsideStay() {
        Fair x = Fairs.crowd(3, 2, 2, 5);
        x.advance(1);
        x.open(2, false);
        Check.visitor("3: who is inside stays", x, 0, INSIDE, 2, NONE);
        x.advance(4);
        Check.same("3: until the time is taken", x.inside(2), 2);
        x.advance(1);
        Check.same("3: then it is out", x.inside(2), 0);
        Check.same("3: with a stamp", x.stamps(1), 4);
        Check.same("3: nobody goes in", x.stateOf(2), IDLE);
    }

    private static void promise3TurnsByClosing() {
        Fair x = Fairs.crowd(2, 1, 1, 60);
        x.ask(4, 1);
        x.ask(5, 1);
        x.advance(5);
        Check.visitor("3: waits by the turn", x, 4, WAITING, 1, 0);
        Check.visitor("3: waits without one", x, 1, WAITING, 1, 1);
        x.ask(2, 1);
        Check.same("3: both leave", x.open(1, false), 2);
        Check.same("3: the turn by which it waited is lost", x.turnOf(4), NONE);
        Check.same("3: turns for later minutes are kept", x.turnOf(5), 10);
        Check.same("3: and this one", x.turnOf(2), 15);
        Check.visitor("3: is idle", x, 4, IDLE, NONE, NONE);
        Check.visitor("3: is idle too", x, 1, IDLE, NONE, NONE);
        x.open(1, true);
        x.advance(5);
        Check.visitor("3: a kept turn counts when it is open again", x, 5, WAITING, 1, 0);
        Check.same("3: a lost turn stays lost", x.turnOf(4), NONE);
        Check.visitor("3: without it nobody comes", x, 4, IDLE, NONE, NONE);
        Fair y = Fairs.crowd(3, 0, 1, 60);
        y.advance(1);
        Check.same("3: asks while it waits", y.ask(2, 0), 5);
        Check.same("3: closes", y.open(0, false), 2);
        Check.same("3: it did not wait by the turn, which is kept", y.turnOf(2), 5);
    }

    private static void promise4Plan() {
        Fair x = new Fair();
        int[] order = {4, 2, 5, 0, 3, 1};
        for (int i = 0; i < 6; i++) {
            Check.same("4: how many", x.plan(7, order[i]), i + 1);
        }
        for (int p = 0; p < 6; p++) {
            int known = p;
            Check.fails("4: again " + p, x, STATE, () -> x.plan(7, known));
            x.setPavilion(p, 1, 1);
        }
        Check.same("4: another's plan is its own", x.plan(6, 4), 1);
        int pass = 0;
        for (int i = 0; i < 6; i++) {
            x.advance(1);
            if (i == 0) {
                Check.visitor("4: the lower number is first", x, 6, INSIDE, 4, NONE);
                Check.visitor("4: the higher number waits", x, 7, WAITING, 4, 0);
                x.advance(1);
            }
            Check.visitor("4: by its order", x, 7, INSIDE, order[i], NONE);
            Check.same("4: stamps so far", x.stamps(7), pass);
            pass |= 1 << order[i];
        }
        for (int wrong : Fairs.NO_VISITOR) {
            Check.fails("4: visitor " + wrong, x, INDEX, () -> x.plan(wrong, 0));
        }
        for (int wrong : Fairs.NO_PAVILION) {
            Check.fails("4: pavilion " + wrong, x, INDEX, () -> x.plan(0, wrong));
        }
        Fair y = new Fair();
        y.plan(0, 3);
        y.advance(1);
        Check.fails("4: while it is inside", y, STATE, () -> y.plan(0, 3));
        Check.same("4: no wrong call left a trace", y.plan(0, 2), 2);
    }

    private static void promise5Drop() {
        Fair x = new Fair();
        x.plan(0, 3);
        x.plan(0, 1);
        x.plan(0, 5);
        Check.fails("5: not in the plan", x, STATE, () -> x.drop(0, 0));
        Check.fails("5: in another's plan", x, STATE, () -> x.drop(1, 3));
        Check.same("5: how many", x.drop(0, 3), 2);
        Check.fails("5: dropped before", x, STATE, () -> x.drop(0, 3));
        Check.same("5: added at the end again", x.plan(0, 3), 3);
        x.advance(1);
        Check.visitor("5: the next one of the plan", x, 0, INSIDE, 1, NONE);
        Check.same("5: dropped while inside", x.drop(0, 1), 2);
        Check.visitor("5: stays inside", x, 0, INSIDE, 1, NONE);
        x.advance(5);
        Check.same("5: and gets the stamp", x.stamps(0), 2);
        Check.visitor("5: goes on", x, 0, INSIDE, 5, NONE);
        Check.same("5: the last but one", x.drop(0, 5), 1);
        Check.same("5: the last", x.drop(0, 3), 0);
        x.advance(5);
        Check.visitor("5: an empty plan", x, 0, IDLE, NONE, NONE);
        for (int wrong : Fairs.NO_VISITOR) {
            Check.fails("5: visitor " + wrong, x, INDEX, () -> x.drop(wrong, 0));
        }
        for (int wrong : Fairs.NO_PAVILION) {
            Check.fails("5: pavilion " + wrong, x, INDEX, () -> x.drop(0, wrong));
        }
    }

    private static void promise5DropWhileWaiting() {
        Fair x = Fairs.crowd(5, 0, 1, 60);
        x.plan(3, 1);
        x.advance(1);
        x.ask(2, 0);
        Check.same("5: drops where it waits", x.drop(2, 0), 0);
        Check.visitor("5: is idle at once", x, 2, IDLE, NONE, NONE);
        Check.same("5: keeps the turn by which it did not wait", x.turnOf(2), 5);
        Check.visitor("5: ahead of it", x, 1, WAITING, 0, 0);
        Check.visitor("5: behind it", x, 3, WAITING, 0, 1);
        Check.visitor("5: the last", x, 4, WAITING, 0, 2);
        Check.same("5: drops where it does not wait", x.drop(3, 1), 1);
        Check.visitor("5: waits as before", x, 3, WAITING, 0, 1);
    }

    private static void promise5DropWhileWaitingByTurn() {
        Fair x = Fairs.crowd(3, 0, 1, 60);
        x.ask(2, 0);
        x.advance(5);
        Check.visitor("5: waits by the turn", x, 2, WAITING, 0, 0);
        Check.same("5: drops", x.drop(2, 0), 0);
        Check.visitor("5: waits on by the turn", x, 2, WAITING, 0, 0);
        Check.same("5: has it", x.turnOf(2), 5);
        x.advance(56);
        Check.visitor("5: and goes inside", x, 2, INSIDE, 0, NONE);
    }

    private static void promise6Ask() {
        Fair x = new Fair();
        for (int v = 0; v < 8; v++) {
            Check.same("6: the first that nobody has", x.ask(v, 2), 5 * (v + 1));
        }
        for (int v = 0; v < 8; v++) {
            int who = v;
            Check.fails("6: has a turn here", x, STATE, () -> x.ask(who, 2));
            Check.fails("6: has a turn elsewhere", x, STATE, () -> x.ask(who, 3));
        }
        Fair y = new Fair();
        Check.same("6: the pavilions give turns each", y.ask(0, 0), 5);
        Check.same("6: another", y.ask(1, 1), 5);
        y.advance(4);
        Check.same("6: later than now", y.ask(2, 2), 5);
        y.advance(1);
        Check.same("6: not now", y.ask(3, 3), 10);
        y.advance(1);
        Check.same("6: from 6 on", y.ask(4, 4), 10);
        Check.same("6: behind another's", y.ask(5, 4), 15);
        y.open(5, false);
        Check.fails("6: closed", y, STATE, () -> y.ask(7, 5));
        y.open(5, true);
        Check.same("6: open again", y.ask(7, 5), 10);
        for (int wrong : Fairs.NO_VISITOR) {
            Check.fails("6: visitor " + wrong, y, INDEX, () -> y.ask(wrong, 0));
        }
        for (int wrong : Fairs.NO_PAVILION) {
            Check.fails("6: pavilion " + wrong, y, INDEX, () -> y.ask(6, wrong));
            Check.fails("6: pavilion though it has a turn " + wrong, y, INDEX, () -> y.ask(7, wrong));
        }
    }

    private static void promise6AskAtTheEnd() {
        Fair x = Fairs.crowd(1, 0, 1, 60);
        x.ask(1, 0);
        x.advance(5);
        Check.visitor("6: waits by a turn", x, 1, WAITING, 0, 0);
        Check.fails("6: has it as long as it waits by it", x, STATE, () -> x.ask(1, 1));
        Fair y = new Fair();
        y.ask(0, 1);
        y.ask(1, 1);
        y.advance(5);
        Check.same("6: the turn is used up, another is given", y.ask(0, 1), 15);
        for (int i = 0; i < 19; i++) {
            y.advance(60);
        }
        y.advance(55);
        Check.same("6: the last minute", y.minute(), 1200);
        Check.same("6: a turn that never comes", y.ask(5, 0), 1205);
    }

    private static void promise7Advance() {
        Fair x = new Fair();
        for (int wrong : new int[] {0, 61, -1, Integer.MIN_VALUE, Integer.MAX_VALUE}) {
            Check.fails("7: minutes " + wrong, x, ARGUMENT, () -> x.advance(wrong));
        }
        Check.same("7: one", x.advance(1), 1);
        for (int i = 1; i < 20; i++) {
            Check.same("7: sixty", x.advance(60), 1 + 60 * i);
        }
        Check.fails("7: above 1200", x, STATE, () -> x.advance(60));
        Check.same("7: up to 1200", x.advance(59), 1200);
        Check.fails("7: 1201", x, STATE, () -> x.advance(1));
        Check.fails("7: out of range comes first", x, ARGUMENT, () -> x.advance(61));
    }

    private static void promise7OrderWithinAMinute() {
        Fair x = Fairs.crowd(3, 0, 1, 1);
        x.plan(0, 1);
        x.advance(1);
        Check.visitor("7: in at 1", x, 0, INSIDE, 0, NONE);
        Check.visitor("7: waits at 1", x, 1, WAITING, 0, 0);
        x.advance(1);
        Check.same("7: stamp at 2", x.stamps(0), 1);
        Check.visitor("7: in the next in the same minute", x, 0, INSIDE, 1, NONE);
        Check.visitor("7: into the free room in the same minute", x, 1, INSIDE, 0, NONE);
        Check.visitor("7: the queue moves on", x, 2, WAITING, 0, 0);
        Fair y = new Fair();
        y.setPavilion(0, 1, 4);
        y.plan(0, 0);
        y.plan(0, 2);
        y.advance(1);
        y.ask(0, 1);
        y.advance(4);
        Check.same("7: the visit ends before the turn of the same minute", y.stamps(0), 1);
        Check.visitor("7: the turn comes before the plan", y, 0, INSIDE, 1, NONE);
        Fair z = Fairs.crowd(8, 3, 1, 60);
        z.advance(1);
        for (int v = 1; v < 8; v++) {
            Check.visitor("7: by rising numbers", z, v, WAITING, 3, v - 1);
        }
    }

    private static void promise7TurnGoesAhead() {
        Fair x = Fairs.crowd(3, 0, 1, 30);
        x.ask(5, 0);
        x.ask(4, 0);
        x.advance(5);
        Check.visitor("7: ahead of all without a turn", x, 5, WAITING, 0, 0);
        Check.visitor("7: one place back", x, 1, WAITING, 0, 1);
        Check.visitor("7: and one place back", x, 2, WAITING, 0, 2);
        x.advance(5);
        Check.visitor("7: the earlier turn stays ahead", x, 5, WAITING, 0, 0);
        Check.visitor("7: behind who waits by a turn", x, 4, WAITING, 0, 1);
        Check.visitor("7: behind both", x, 1, WAITING, 0, 2);
        x.advance(21);
        Check.visitor("7: goes in by the turn", x, 5, INSIDE, 0, NONE);
        Check.same("7: the turn is used up", x.turnOf(5), NONE);
        Check.same("7: the other's is not", x.turnOf(4), 10);
        x.plan(6, 0);
        x.advance(1);
        Check.visitor("7: who comes by plan goes to the end", x, 6, WAITING, 0, 3);
        x.advance(29);
        Check.same("7: a stamp without a plan", x.stamps(5), 1);
        Check.visitor("7: the second turn", x, 4, INSIDE, 0, NONE);
        Check.visitor("7: the first without a turn", x, 1, WAITING, 0, 0);
    }

    private static void promise7TurnFromAnotherQueue() {
        Fair x = Fairs.crowd(4, 0, 1, 60);
        x.setPavilion(1, 1, 60);
        x.ask(2, 1);
        x.plan(7, 1);
        x.advance(4);
        Check.visitor("7: waits by plan", x, 2, WAITING, 0, 1);
        x.advance(1);
        Check.visitor("7: goes away to its turn", x, 2, WAITING, 1, 0);
        Check.visitor("7: closes up", x, 3, WAITING, 0, 1);
        Check.same("7: one less there", x.queue(0), 2);
        Check.visitor("7: ahead as before", x, 1, WAITING, 0, 0);
    }

    private static void promise7TurnInTheSameQueue() {
        Fair x = Fairs.crowd(5, 0, 1, 60);
        x.ask(3, 0);
        x.advance(4);
        Check.visitor("7: waits by plan", x, 3, WAITING, 0, 2);
        x.advance(1);
        Check.visitor("7: to the front of the same queue", x, 3, WAITING, 0, 0);
        Check.visitor("7: then 1", x, 1, WAITING, 0, 1);
        Check.visitor("7: then 2", x, 2, WAITING, 0, 2);
        Check.visitor("7: then 4", x, 4, WAITING, 0, 3);
        Check.same("7: as many as before", x.queue(0), 4);
    }

    private static void promise7TurnsAreLost() {
        Fair x = Fairs.crowd(2, 0, 1, 60);
        x.ask(0, 0);
        x.ask(1, 1);
        x.ask(2, 2);
        x.advance(4);
        x.open(1, false);
        x.open(2, false);
        Check.same("7: had until its minute", x.turnOf(2), 5);
        x.advance(1);
        Check.same("7: lost by who is inside", x.turnOf(0), NONE);
        Check.visitor("7: who is inside stays", x, 0, INSIDE, 0, NONE);
        Check.same("7: lost by closing, waiting", x.turnOf(1), NONE);
        Check.visitor("7: waits where it waited", x, 1, WAITING, 0, 0);
        Check.same("7: lost by closing, idle", x.turnOf(2), NONE);
        Check.visitor("7: is idle", x, 2, IDLE, NONE, NONE);
        x.ask(0, 3);
        x.advance(5);
        Check.visitor("7: who is inside does not go to another's queue", x, 0, INSIDE, 0, NONE);
        Check.same("7: nobody came", x.inside(3) + x.queue(3), 0);
        Check.same("7: and that turn is lost", x.turnOf(0), NONE);
        Fair y = Fairs.crowd(1, 0, 1, 5);
        y.advance(6);
        Check.same("7: has the stamp", y.stamps(0), 1);
        Check.same("7: asks for what it has seen", y.ask(0, 0), 10);
        y.advance(4);
        Check.visitor("7: sees it again", y, 0, INSIDE, 0, NONE);
        y.advance(5);
        Check.same("7: the stamps are a set", y.stamps(0), 1);
    }

    private static void promise7UsedTurnIsForgotten() {
        Fair x = Fairs.crowd(2, 0, 1, 60);
        x.setPavilion(1, 1, 1);
        x.ask(1, 1);
        x.advance(5);
        Check.visitor("7: goes in by a turn", x, 1, INSIDE, 1, NONE);
        x.advance(1);
        Check.visitor("7: waits by plan after it", x, 1, WAITING, 0, 0);
        x.ask(2, 0);
        x.advance(4);
        Check.visitor("7: a turn goes ahead of who had one once", x, 2, WAITING, 0, 0);
        Check.visitor("7: who is behind it", x, 1, WAITING, 0, 1);
        Check.same("7: and who waits without one drops", x.drop(1, 0), 0);
        Check.visitor("7: so it is idle", x, 1, IDLE, NONE, NONE);
    }

    private static void promise7PlanSkips() {
        Fair x = new Fair();
        x.plan(0, 5);
        x.plan(0, 4);
        x.plan(0, 3);
        x.open(5, false);
        x.advance(1);
        Check.visitor("7: skips the closed one", x, 0, INSIDE, 4, NONE);
        x.open(5, true);
        x.open(3, false);
        x.advance(5);
        Check.visitor("7: takes it when it is open", x, 0, INSIDE, 5, NONE);
        x.advance(5);
        Check.visitor("7: skips what it has a stamp of, and the closed", x, 0, IDLE, NONE, NONE);
        x.open(3, true);
        x.advance(1);
        Check.visitor("7: the last of the plan", x, 0, INSIDE, 3, NONE);
        Fair y = Fairs.crowd(2, 0, 1, 60);
        y.open(1, false);
        y.drop(1, 0);
        y.plan(1, 1);
        y.plan(1, 0);
        y.advance(1);
        Check.visitor("7: waits at the second of the plan", y, 1, WAITING, 0, 0);
        y.open(1, true);
        y.advance(1);
        Check.visitor("7: who waits stays though the first opens", y, 1, WAITING, 0, 0);
    }

    private static void promise8Send() {
        Fair x = Fairs.crowd(2, 0, 8, 1);
        Check.fails("8: no stamp", x, STATE, () -> x.send(0, 0));
        x.advance(1);
        Check.fails("8: no stamp while inside", x, STATE, () -> x.send(0, 0));
        x.advance(1);
        Check.fails("8: no stamp of another pavilion", x, STATE, () -> x.send(0, 1));
        Check.fails("8: another's stamp", x, STATE, () -> x.send(2, 0));
        for (int i = 0; i < 10; i++) {
            Check.same("8: there is one", x.send(i % 2, 0), true);
            Check.same("8: one less", x.stock(0), 9 - i);
        }
        Check.same("8: none", x.send(0, 0), false);
        Check.same("8: none again", x.send(1, 0), false);
        Check.same("8: none the third time", x.send(1, 0), false);
        Check.same("8: stock stays 0", x.stock(0), 0);
        Check.same("8: each counts as demand", x.demand(0), 3);
        Check.same("8: sent by the one", x.sent(0, 0), 5);
        Check.same("8: sent by the other", x.sent(1, 0), 5);
        Check.same("8: other stocks stay", x.stock(1), 10);
        x.open(0, false);
        Check.same("8: a closed pavilion's cards are asked for too", x.send(0, 0), false);
        Check.fails("8: no stamp, no card: no demand", x, STATE, () -> x.send(2, 0));
        for (int wrong : Fairs.NO_VISITOR) {
            Check.fails("8: visitor " + wrong, x, INDEX, () -> x.send(wrong, 0));
        }
        for (int wrong : Fairs.NO_PAVILION) {
            Check.fails("8: pavilion " + wrong, x, INDEX, () -> x.send(0, wrong));
        }
    }

    private static void promise9Reprint() {
        Fair x = Fairs.demanded();
        Check.same("9: no demand of 4", x.reprint(4), 0);
        Check.same("9: nor of 1000", x.reprint(1000), 0);
        Check.same("9: of 2 or more", x.reprint(2), 5);
        int[] stock = {0, 2, 3, 10, 10, 10};
        int[] demand = {1, 0, 0, 0, 0, 0};
        for (int p = 0; p < 6; p++) {
            Check.same("9: stock of " + p, x.stock(p), stock[p]);
            Check.same("9: demand of " + p, x.demand(p), demand[p]);
        }
        Check.same("9: once", x.reprint(2), 0);
        Check.same("9: of 1", x.reprint(1), 1);
        Check.same("9: a card again", x.send(0, 0), true);
        Check.same("9: and none", x.send(0, 0), false);
        for (int wrong : new int[] {0, 1001, -1, Integer.MIN_VALUE, Integer.MAX_VALUE}) {
            Check.fails("9: threshold " + wrong, x, ARGUMENT, () -> x.reprint(wrong));
        }
    }

    private static void promise10Minute() {
        Fair x = new Fair();
        x.advance(7);
        Check.same("10: 7", x.minute(), 7);
        x.ask(0, 0);
        x.plan(0, 0);
        x.open(0, false);
        Check.same("10: only advance lets minutes pass", x.minute(), 7);
        x.advance(60);
        Check.same("10: 67", x.minute(), 67);
    }

    private static void promise11And12StateAndWhere() {
        Fair x = Fairs.crowd(2, 5, 1, 2);
        Check.same("11: idle before", x.stateOf(0), IDLE);
        Check.same("12: nowhere before", x.whereIs(0), NONE);
        x.advance(1);
        Check.same("11: inside", x.stateOf(0), INSIDE);
        Check.same("12: inside it", x.whereIs(0), 5);
        Check.same("11: waiting", x.stateOf(1), WAITING);
        Check.same("12: waits there", x.whereIs(1), 5);
        x.advance(2);
        Check.same("11: idle after", x.stateOf(0), IDLE);
        Check.same("12: nowhere after", x.whereIs(0), NONE);
        Check.same("11: another has nothing of it", x.stateOf(7), IDLE);
    }

    private static void promise13PlaceOf() {
        Fair x = Fairs.crowd(8, 0, 1, 1);
        Check.same("13: does not wait yet", x.placeOf(7), NONE);
        for (int minute = 1; minute <= 8; minute++) {
            x.advance(1);
            Check.same("13: the last at " + minute, x.placeOf(7), minute == 8 ? NONE : 7 - minute);
            Check.same("13: who goes in at " + minute, x.placeOf(minute - 1), NONE);
        }
    }

    private static void promise14TurnOf() {
        Fair x = Fairs.crowd(1, 0, 1, 20);
        x.advance(1);
        Check.same("14: none", x.turnOf(1), NONE);
        x.ask(1, 0);
        Check.same("14: to come", x.turnOf(1), 5);
        x.advance(4);
        Check.same("14: now", x.turnOf(1), 5);
        x.advance(15);
        Check.same("14: past, while it waits by it", x.turnOf(1), 5);
        x.advance(1);
        Check.same("14: used up", x.turnOf(1), NONE);
        Check.same("14: and inside", x.stateOf(1), INSIDE);
        Fair y = new Fair();
        y.ask(0, 0);
        y.advance(5);
        Check.same("14: used up at once where there is room", y.turnOf(0), NONE);
        Check.same("14: inside at once", y.stateOf(0), INSIDE);
    }

    private static void promise15Stamps() {
        Fair x = new Fair();
        int[] order = {5, 0, 3};
        for (int p : order) {
            x.setPavilion(p, 1, 1);
            x.plan(2, p);
        }
        int[] due = {0, 32, 33, 41, 41};
        for (int stamps : due) {
            x.advance(1);
            Check.same("15: stamps", x.stamps(2), stamps);
        }
        Check.same("15: dropping takes no stamp", x.drop(2, 5), 2);
        x.open(0, false);
        Check.same("15: nor does closing", x.stamps(2), 41);
        Check.same("15: nor sending", x.send(2, 3), true);
        Check.same("15: all of them stay", x.stamps(2), 41);
        Check.same("15: another has none", x.stamps(1), 0);
    }

    private static void promise16And17QueueAndInside() {
        Fair x = Fairs.crowd(7, 4, 3, 2);
        int[] queue = {4, 4, 1, 1, 0, 0, 0};
        int[] inside = {3, 3, 3, 3, 1, 1, 0};
        for (int i = 0; i < queue.length; i++) {
            x.advance(1);
            Check.same("16: queue at " + x.minute(), x.queue(4), queue[i]);
            Check.same("17: inside at " + x.minute(), x.inside(4), inside[i]);
            Check.same("16: nobody elsewhere", x.queue(3), 0);
            Check.same("17: nobody inside elsewhere", x.inside(3), 0);
        }
    }

    private static void promise18To20Cards() {
        Fair x = Fairs.demanded();
        for (int p = 0; p < 3; p++) {
            Check.same("18: none left of " + p, x.stock(p), 0);
            Check.same("19: demand for " + p, x.demand(p), p + 1);
            Check.same("20: sent of " + p, x.sent(0, p), 10);
            Check.same("20: by nobody else", x.sent(1, p), 0);
        }
        Check.same("18: untouched", x.stock(3), 10);
        Check.same("19: untouched", x.demand(3), 0);
        Check.same("20: untouched", x.sent(0, 3), 0);
        x.reprint(3);
        Check.same("18: reprinted", x.stock(2), 3);
        Check.same("19: met", x.demand(2), 0);
        Check.same("20: what was not sent is not sent by reprinting", x.sent(0, 2), 10);
        x.send(0, 2);
        Check.same("20: one more", x.sent(0, 2), 11);
    }

    private static void wrongNumbers() {
        Fair x = Fairs.demanded();
        for (int wrong : Fairs.NO_VISITOR) {
            Check.fails("11: visitor " + wrong, x, INDEX, () -> x.stateOf(wrong));
            Check.fails("12: visitor " + wrong, x, INDEX, () -> x.whereIs(wrong));
            Check.fails("13: visitor " + wrong, x, INDEX, () -> x.placeOf(wrong));
            Check.fails("14: visitor " + wrong, x, INDEX, () -> x.turnOf(wrong));
            Check.fails("15: visitor " + wrong, x, INDEX, () -> x.stamps(wrong));
            Check.fails("20: visitor " + wrong, x, INDEX, () -> x.sent(wrong, 0));
        }
        for (int wrong : Fairs.NO_PAVILION) {
            Check.fails("16: pavilion " + wrong, x, INDEX, () -> x.queue(wrong));
            Check.fails("17: pavilion " + wrong, x, INDEX, () -> x.inside(wrong));
            Check.fails("18: pavilion " + wrong, x, INDEX, () -> x.stock(wrong));
            Check.fails("19: pavilion " + wrong, x, INDEX, () -> x.demand(wrong));
            Check.fails("20: pavilion " + wrong, x, INDEX, () -> x.sent(0, wrong));
        }
    }

    /** What README.md shows is so. */
    private static void readmeExample() {
        Fair fair = new Fair();
        fair.setPavilion(0, 1, 3);
        Check.same("README: plan", fair.plan(4, 0), 1);
        Check.same("README: ask", fair.ask(5, 0), 5);
        Check.same("README: advance", fair.advance(4), 4);
        Check.same("README: stamps", fair.stamps(4), 1);
        Check.same("README: send", fair.send(4, 0), true);
        Check.same("README: stock", fair.stock(0), 9);
        Check.same("README: turnOf", fair.turnOf(5), 5);
        fair.advance(1);
        Check.same("README: stateOf", fair.stateOf(5), FairFolio.INSIDE);
        Check.same("README: whereIs", fair.whereIs(5), 0);
        Check.same("README: turn used up", fair.turnOf(5), FairFolio.NONE);
        Check.fails("README: no stamp", fair, STATE, () -> fair.send(5, 0));
    }
}
