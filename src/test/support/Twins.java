import java.util.function.Supplier;
import java.util.function.ToLongFunction;

/** Two objects made alike: one of them is asked what it must refuse, and both must then tell the same. */
final class Twins {
    private final String scene;
    private final Supplier<ChangeStream> maker;

    Twins(String scene, Supplier<ChangeStream> maker) {
        this.scene = scene;
        this.maker = maker;
    }

    ChangeStream one() {
        return maker.get();
    }

    void badArgument(String call, ToLongFunction<ChangeStream> refused) {
        refuse(call, refused, "throws.IllegalArgumentException");
    }

    void badState(String call, ToLongFunction<ChangeStream> refused) {
        refuse(call, refused, "throws.IllegalStateException");
    }

    private void refuse(String call, ToLongFunction<ChangeStream> refused, String due) {
        String title = call + ", " + scene;
        ChangeStream asked = maker.get();
        Due.text(title, Due.outcome(() -> refused.applyAsLong(asked)), due);
        Due.text(title + ", and what it tells then", Telling.of(asked), Telling.of(maker.get()));
    }
}
