import java.util.List;
import java.util.function.Consumer;

/** Valleys in which the edges are tried: how each is made, and what is seen of it. */
final class Valleys {
    static final Valleys NEW = new Valleys(4, x -> { });
    static final Valleys BUSY_2 = busy(2), BUSY_4 = busy(4), BUSY_6 = busy(6);
    /** Nothing more goes into it: 6 villages, 8 woods, 12 needs, 6 signs, 250 bytes, both images. */
    static final Valleys CRAMMED = new Valleys(6, Valleys::cram);
    static final List<Valleys> ALL = List.of(NEW, BUSY_2, BUSY_4, BUSY_6, CRAMMED);

    private static final String TALE = "villages 5;hears 4 3 0;wood 0 4;temper 4 5;friend 4 0;need 4 3 15;";

    final int n;
    private final Consumer<BlindBells> told;
    private String sight;

    private Valleys(int n, Consumer<BlindBells> told) {
        this.n = n;
        this.told = told;
    }

    /** A valley told by some calls on a new object. */
    static Valleys of(Consumer<BlindBells> told) {
        BlindBells x = new BlindBells();
        told.accept(x);
        return new Valleys(x.count(0), told);
    }

    /** Nothing told but how many villages there are. */
    static Valleys villages(int n) {
        return of(x -> x.villages(n));
    }

    /** n villages, each bell heard in all others in wind 0. */
    static BlindBells allHear(int n) {
        BlindBells x = new BlindBells();
        x.villages(n);
        for (int bell = 0; bell < n; bell++) {
            for (int village = 0; village < n; village++) {
                if (bell != village) {
                    x.hears(bell, 0, village, true);
                }
            }
        }
        return x;
    }

    /** This valley, told something more. */
    Valleys and(Consumer<BlindBells> more) {
        return of(told.andThen(more));
    }

    BlindBells make() {
        BlindBells x = new BlindBells();
        told.accept(x);
        return x;
    }

    /** Of a twin that had no other call; a valley is made alike each time, so that it is looked at but once. */
    String sight() {
        if (sight == null) {
            sight = Sight.of(make());
        }
        return sight;
    }

    private static Valleys busy(int n) {
        return new Valleys(n, x -> tell(x, n));
    }

    private static void tell(BlindBells x, int n) {
        x.villages(n);
        x.sign(9);
        x.need(1, 2, 1);
        x.image(0);
        for (int bell = 0; bell < n; bell++) {
            for (int wind = 0; wind < 4; wind++) {
                x.hears(bell, wind, (bell + 1 + wind % (n - 1)) % n, true);
            }
            x.temper(bell, 5 - bell);
        }
        x.wood(0, 1);
        x.wood(n - 1, 0);
        x.friendOf(0, n - 1);
        x.change(0, n - 1);
        x.need(0, 0, (1 << n) - 2);
        x.need(n - 1, 3, 1);
        x.sign(3);
        x.sign(5);
        Check.type(x, TALE);
    }

    private static void cram(BlindBells x) {
        tell(x, 6);
        for (int i = 2; i < 8; i++) {
            x.wood(i - 2, (i - 1) % 6);
        }
        for (int i = 3; i < 12; i++) {
            x.need(i % 6, i % 4, 63 & ~(1 << i % 6));
        }
        for (int strokes = 32; strokes < 256; strokes += 80) {
            x.sign(strokes);
        }
        Check.type(x, " ".repeat(250 - TALE.length()));
        x.image(1);
    }
}
