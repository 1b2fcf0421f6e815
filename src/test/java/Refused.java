import java.util.ArrayList;
import java.util.List;
import java.util.function.Consumer;
import java.util.function.Function;
import java.util.function.Supplier;

/**
 * Calls that must throw just one exception and change nothing. Each is tried on objects of its own,
 * beside a twin that is made alike and not called, so that a trace is found wherever it is left:
 * in the state, the saved states, the snapshot or the buffer.
 */
final class Refused {
    private static final int MOST_SAVED = 5;

    private final Supplier<PamphletQuarrel> made;
    private final Class<? extends RuntimeException> due;
    private final Function<PamphletQuarrel, String> picture;
    private final List<String> twin;

    private Refused(Supplier<PamphletQuarrel> made, Class<? extends RuntimeException> due,
            Function<PamphletQuarrel, String> picture) {
        this.made = made;
        this.due = due;
        this.picture = picture;
        this.twin = pictures(x -> { });
    }

    /** As below, for quarrels of so many words that all answers would be more than 512 calls. */
    static void stateOfManyWords(Supplier<PamphletQuarrel> made, Consumer<PamphletQuarrel> call) {
        new Refused(made, IllegalStateException.class, Picture::of).one("the call", call);
    }

    @SafeVarargs
    static void index(Supplier<PamphletQuarrel> made, Consumer<PamphletQuarrel>... calls) {
        all(made, IndexOutOfBoundsException.class, calls);
    }

    @SafeVarargs
    static void argument(Supplier<PamphletQuarrel> made, Consumer<PamphletQuarrel>... calls) {
        all(made, IllegalArgumentException.class, calls);
    }

    @SafeVarargs
    static void state(Supplier<PamphletQuarrel> made, Consumer<PamphletQuarrel>... calls) {
        all(made, IllegalStateException.class, calls);
    }

    @SafeVarargs
    private static void all(Supplier<PamphletQuarrel> made, Class<? extends RuntimeException> due,
            Consumer<PamphletQuarrel>... calls) {
        Refused refused = new Refused(made, due, Picture::whole);
        for (int i = 0; i < calls.length; i++) {
            refused.one("call " + i, calls[i]);
        }
    }

    private void one(String name, Consumer<PamphletQuarrel> call) {
        PamphletQuarrel x = made.get();
        Class<?> got = Check.thrownBy(() -> call.accept(x));
        Check.same(name, due, got);
        if (got == due) {
            Check.same(name + " and then the object", twin, pictures(y -> {
                Check.thrownBy(() -> call.accept(y));
            }));
        }
    }

    private List<String> pictures(Consumer<PamphletQuarrel> call) {
        List<String> pictures = new ArrayList<>();
        for (int undone = 0; undone <= MOST_SAVED; undone++) {
            pictures.add(undonePicture(called(call), undone));
        }
        pictures.add(restoredPicture(called(call)));
        pictures.add(bufferPicture(called(call), ""));
        pictures.add(bufferPicture(called(call), "a"));
        pictures.add("the buffer had " + called(call).clearText());
        return pictures;
    }

    private PamphletQuarrel called(Consumer<PamphletQuarrel> call) {
        PamphletQuarrel x = made.get();
        call.accept(x);
        return x;
    }

    private String undonePicture(PamphletQuarrel x, int undone) {
        for (int i = 0; i < undone; i++) {
            if (Check.thrownBy(x::undo) != null) {
                return "nothing to undo";
            }
        }
        return picture.apply(x);
    }

    private String restoredPicture(PamphletQuarrel x) {
        return Check.thrownBy(x::restoreSnapshot) == null ? picture.apply(x) : "no snapshot";
    }

    /** What is printed when the buffer has this behind it. */
    private static String bufferPicture(PamphletQuarrel x, String more) {
        if (Check.thrownBy(() -> Picture.type(x, more)) != null || x.whyNotPrinted() > 0) {
            return "not printed";
        }
        return "printed " + Picture.words(x, x.print(0));
    }
}
