import java.util.Random;

/** A wall with some of everything, drawn by a number: the same number makes the same again, to be tried on truly. */
final class Drawn {
    /** None of these has the name paid, as PAID can be asked but not set. */
    private static final String[] RULES = {
        "holds firm;fades 1;costs parts;",
        "holds firm-year*2;fades 3;costs high*7+1;",
        "holds 9-number;fades number;costs firm+year;",
        "holds parts-1;fades 0;costs 5;",
        "holds (year<4)*20+high;fades parts-2;costs 3*parts*parts;",
        "holds firm*(not(parts<3 or high=1));fades high+1;costs number-2;",
    };
    private static final int MOST_FIRM = 14;

    final int seed;
    final int regrets;
    /** Asked otherwise than it was drawn, where it isn't -1: the KIND of this one. */
    private final int one;
    private final int kind;

    Drawn(int seed) {
        this(seed, -1, -1);
    }

    private Drawn(int seed, int one, int kind) {
        this.seed = seed;
        this.one = one;
        this.kind = kind;
        this.regrets = 1 + seed % 5;
    }

    Drawn withKind(int ofOne, int newKind) {
        return new Drawn(seed, ofOne, newKind);
    }

    /** Some 100 calls at most: what is left of 512 is for the test. */
    MightHaveBeenPutUp make() {
        Random random = new Random(seed);
        MightHaveBeenPutUp x = new MightHaveBeenPutUp();
        for (int i = random.nextInt(5); i > 0; i--) {
            x.set(3, random.nextInt(64), random.nextInt(4) == 0 ? 0 : 1);
            x.set(3, random.nextInt(8), 0);
        }
        for (int i = 0; i < regrets; i++) {
            int drawnKind = random.nextInt(6);
            x.regret(i == one ? kind : drawnKind, random.nextInt(10), random.nextInt(MOST_FIRM));
        }
        for (int turn = 0; turn < 6; turn++) {
            put(x, random);
        }
        x.set(0, 0, random.nextInt(15));
        int rule = random.nextInt(RULES.length + 1);
        if (rule < RULES.length) {
            Check.text(x, RULES[rule]);
            x.force(1);
        }
        return x;
    }

    private void put(MightHaveBeenPutUp x, Random random) {
        int part = random.nextInt(6);
        long places = x.room(part);
        int who = random.nextInt(regrets);
        int at = random.nextInt(64);
        for (int i = 0; i < 64; i++, at = (at + 1) % 64) {
            if ((places >>> at & 1) != 0) {
                x.raise(who, part, at);
                return;
            }
        }
    }
}
