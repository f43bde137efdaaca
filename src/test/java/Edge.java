/** One number of a call, tried on a house at the edges of what is taken: each time on a house of its own. */
final class Edge {
    static final int LEAST = Integer.MIN_VALUE, MOST = Integer.MAX_VALUE;

    /** A call with this number, its other numbers being as they are. */
    interface Call {
        long answer(BookHouse x, int n);
    }

    private final Check.Case c;
    private final Replay house;
    private final Call call;

    Edge(Check.Case c, Replay house, Call call) {
        this.c = c;
        this.house = house;
        this.call = call;
    }

    Edge taken(int n, long due) {
        house.due(c, due, x -> call.answer(x, n));
        return this;
    }

    /** The call asks alone: it answers so, and nothing changes. */
    Edge asked(int n, long due) {
        house.asked(c, due, x -> call.answer(x, n));
        return this;
    }

    /** These numbers are refused so, and nothing changes. */
    Edge refused(long due, int... numbers) {
        for (int n : numbers) house.refused(c, due, x -> call.answer(x, n));
        return this;
    }
}
