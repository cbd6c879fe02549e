import java.util.function.Supplier;

/** Tries refused calls one behind the other on one house, which must be as a house without these calls then. */
final class Refusals {
    interface Call {
        long on(PostHouse x);
    }

    private final String promise;
    private final Supplier<PostHouse> maker;
    private final PostHouse x;

    /** The maker must make a house just like the one before each time. */
    Refusals(String promise, Supplier<PostHouse> maker) {
        this.promise = promise;
        this.maker = maker;
        x = maker.get();
    }

    Refusals due(long refusal, String why, Call call) {
        Check.due(promise + ": " + why, call.on(x), refusal);
        return this;
    }

    void changedNothing() {
        Check.due(promise + ": what was refused changed nothing", Whole.of(x), Whole.of(maker.get()));
    }
}
