import java.util.function.Consumer;

/**
 * Two objects that alike things were done to, but for what shall have changed nothing: whatever they
 * can be asked, and whatever comes of their past, their slots and their tapes, is alike.
 */
final class Twins {
    private final Due due;
    private final TaperedNumbers x = new TaperedNumbers();
    private final TaperedNumbers y = new TaperedNumbers();

    Twins(Due due) {
        this.due = due;
    }

    Twins both(Consumer<TaperedNumbers> way) {
        way.accept(x);
        way.accept(y);
        return this;
    }

    /** The one that more is done to. */
    TaperedNumbers one() {
        return x;
    }

    void alike(String call) {
        seenAlike(call);
        while (y.undo()) {
            due.yes(call + ", then undo()", x.undo());
            seenAlike(call + ", then undo()");
        }
        due.no(call + ", then undo() of all", x.undo());
        // A tape can be looked into by read() alone, and that ends what the slots hold.
        for (int slot = 0; slot < 3; slot++) {
            due.same(call + ", then restore(" + slot + ")", x.restore(slot), y.restore(slot));
            seenAlike(call + ", then restore(" + slot + ")");
        }
        due.same(call + ", then read()", x.read(), y.read());
        seenAlike(call + ", then read()");
    }

    private void seenAlike(String call) {
        String one = seen(x);
        String other = seen(y);
        due.yes(call + ": " + one + " instead of " + other, one.equals(other));
    }

    /** All that can be asked of an object's state. */
    static String seen(TaperedNumbers x) {
        StringBuilder all = new StringBuilder();
        for (int what = 0; what <= 10; what++) {
            all.append(x.count(what)).append(' ');
        }
        all.append("place ").append(x.place()).append(" names ");
        for (int i = 0; i < 8; i++) {
            all.append(x.let(i, 0)).append(' ');
        }
        all.append("store ").append(x.stored(12, 2)).append(' ');
        for (int i = -100; i <= 100; i++) {
            all.append(x.bit(i));
        }
        return all.toString();
    }
}
