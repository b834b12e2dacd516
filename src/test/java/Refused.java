import java.util.function.Supplier;
import java.util.function.ToLongFunction;

/** Calls that are refused: of two like objects one is asked, and then both must answer alike, whatever they are asked. */
final class Refused {
    private final Due due;

    Refused(Due due) {
        this.due = due;
    }

    /** Of an object that has something of each sort, and room for more. */
    void ofSome(String call, ToLongFunction<ChalkStreet> refused, long want) {
        of(Scenes::some, call, refused, want);
    }

    /** Of an object that has no room for more. */
    void ofFull(String call, ToLongFunction<ChalkStreet> refused, long want) {
        of(Scenes::full, call + " of a full one", refused, want);
    }

    void ofBoth(String call, ToLongFunction<ChalkStreet> refused, long want) {
        ofSome(call, refused, want);
        ofFull(call, refused, want);
    }

    private void of(Supplier<ChalkStreet> scene, String call, ToLongFunction<ChalkStreet> refused, long want) {
        ChalkStreet asked = scene.get();
        due.is(call, refused.applyAsLong(asked), want);
        Everything.alike(due, call, asked, scene.get());
    }
}
