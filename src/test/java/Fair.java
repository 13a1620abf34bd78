import java.util.ArrayList;
import java.util.function.Consumer;
import java.util.function.Function;

/**
 * A FairFolio that is never used beyond its 512th call, as the document asks of who uses one. It keeps the
 * calls that may have changed it, so that a second one can be made that has had the same, to be looked at.
 */
final class Fair {
    private static final int CALLS = 512;

    private final FairFolio folio = new FairFolio();
    private final ArrayList<Consumer<FairFolio>> changes = new ArrayList<>();
    private int calls = 0;

    /** A new fair that has had the same calls, the refused ones too, but not those that only look. */
    Fair again() {
        Fair twin = new Fair();
        for (Consumer<FairFolio> change : changes) {
            try {
                twin.run(change);
            } catch (RuntimeException e) {
                // The test of this call has looked at what it throws.
            }
        }
        return twin;
    }

    void setPavilion(int pavilion, int room, int time) {
        run(x -> x.setPavilion(pavilion, room, time));
    }

    int open(int pavilion, boolean isOpen) {
        return change(x -> x.open(pavilion, isOpen));
    }

    int plan(int visitor, int pavilion) {
        return change(x -> x.plan(visitor, pavilion));
    }

    int drop(int visitor, int pavilion) {
        return change(x -> x.drop(visitor, pavilion));
    }

    int ask(int visitor, int pavilion) {
        return change(x -> x.ask(visitor, pavilion));
    }

    int advance(int minutes) {
        return change(x -> x.advance(minutes));
    }

    boolean send(int visitor, int pavilion) {
        return change(x -> x.send(visitor, pavilion));
    }

    int reprint(int threshold) {
        return change(x -> x.reprint(threshold));
    }

    int minute() {
        return next().minute();
    }

    int stateOf(int visitor) {
        return next().stateOf(visitor);
    }

    int whereIs(int visitor) {
        return next().whereIs(visitor);
    }

    int placeOf(int visitor) {
        return next().placeOf(visitor);
    }

    int turnOf(int visitor) {
        return next().turnOf(visitor);
    }

    int stamps(int visitor) {
        return next().stamps(visitor);
    }

    int queue(int pavilion) {
        return next().queue(pavilion);
    }

    int inside(int pavilion) {
        return next().inside(pavilion);
    }

    int stock(int pavilion) {
        return next().stock(pavilion);
    }

    int demand(int pavilion) {
        return next().demand(pavilion);
    }

    int sent(int visitor, int pavilion) {
        return next().sent(visitor, pavilion);
    }

    private <T> T change(Function<FairFolio, T> call) {
        changes.add(call::apply);
        return call.apply(next());
    }

    private void run(Consumer<FairFolio> call) {
        changes.add(call);
        call.accept(next());
    }

    /** The fair, for one call more; an Error, so that no test takes it for what the call throws. */
    private FairFolio next() {
        calls++;
        if (calls > CALLS) {
            throw new AssertionError("the test makes more than " + CALLS + " calls on a fair");
        }
        return folio;
    }
}
