/** Two objects go the same way, and one of them goes a call further: both must be alike behind a refused one. */
final class Pair {
    /** An object answers at most so many calls as is due. */
    private static final int CALLS = 512;

    /** What is done with an object ahead of the call. */
    interface Way {
        void go(WordHouse x);
    }

    /** A call, or several; the last one answers (a boolean as 1 or 0). */
    interface Call {
        long of(WordHouse x);
    }

    private final Check check;

    Pair(Check check) {
        this.check = check;
    }

    /** The call answers that, trouble() tells so, and all is as before. */
    void refuses(String what, Way way, Call call, long answer, int trouble) {
        WordHouse x = new WordHouse();
        way.go(x);
        check.due(what + " is refused", call.of(x), answer);
        check.due(what + " tells trouble", x.trouble(), trouble);
        if (trouble != 4) check.due(what + " has no place", x.where(), -1);
        asBefore(what, x, way);
    }

    /** The same of calls that answer false. */
    void denies(String what, Way way, Call call, int trouble) {
        refuses(what, way, call, 0, trouble);
    }

    /** The call answers that, it wasn't refused, and all is as before. */
    void looks(String what, Way way, Call call, long answer) {
        WordHouse x = new WordHouse();
        way.go(x);
        check.due(what, call.of(x), answer);
        check.due(what + " tells no trouble", x.trouble(), 0);
        check.due(what + " has no place", x.where(), -1);
        asBefore(what, x, way);
    }

    /** The call answers that, and it wasn't refused. */
    void grants(String what, Way way, Call call, long answer) {
        WordHouse x = new WordHouse();
        way.go(x);
        check.due(what, call.of(x), answer);
        check.due(what + " tells no trouble", x.trouble(), 0);
    }

    private void asBefore(String what, WordHouse x, Way way) {
        WordHouse other = new WordHouse();
        way.go(other);
        Picture got = Picture.whole(x);
        String difference = got.difference(Picture.whole(other));
        check.due(what + " leaves all as before" + (difference.isEmpty() ? "" : ": " + difference), difference.isEmpty(), true);
        check.due(what + " takes few calls", got.calls() < CALLS - 100, true);
    }
}
