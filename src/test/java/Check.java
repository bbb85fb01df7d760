import java.util.NoSuchElementException;

/** Counts the answers that are not as due, and prints each. */
final class Check {
    interface Call {
        Object run();
    }

    interface Maker {
        TongueSwap make();
    }

    interface Deed {
        Object on(TongueSwap x);
    }

    private final String name;
    private int asked;
    private int wrong;

    Check(String name) {
        this.name = name;
    }

    void due(String what, Object got, Object due) {
        asked++;
        if (!got.equals(due)) {
            wrong++;
            System.out.println(name + ": " + what + " answered " + got + ", due is " + due);
        }
    }

    void noSuch(String what, Call call) {
        due(what, answer(call), NoSuchElementException.class.getSimpleName());
    }

    void illegal(String what, Call call) {
        due(what, answer(call), IllegalArgumentException.class.getSimpleName());
    }

    /** A call that is refused with this answer (or exception's name): it leaves all as it was. */
    void refused(String what, Object answer, Maker maker, Deed deed) {
        TongueSwap x = maker.make();
        due(what, answer(() -> deed.on(x)), answer);
        due(what + ": nothing changes", Reading.of(x), Reading.of(maker.make()));
    }

    void refusedNoSuch(String what, Maker maker, Deed deed) {
        refused(what, NoSuchElementException.class.getSimpleName(), maker, deed);
    }

    void refusedIllegal(String what, Maker maker, Deed deed) {
        refused(what, IllegalArgumentException.class.getSimpleName(), maker, deed);
    }

    /** What a call answers, or the name of what it throws. */
    static Object answer(Call call) {
        try {
            return call.run();
        } catch (RuntimeException e) {
            return e.getClass().getSimpleName();
        }
    }

    boolean hasWrong() {
        return wrong != 0;
    }

    void end() {
        System.out.println(name + ": " + asked + " answers, " + wrong + " not as due");
        if (wrong != 0) {
            System.exit(1);
        }
    }
}
