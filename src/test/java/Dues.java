/** Short names for what the groups of edges use most. */
abstract class Dues {
    static final int MIN = Edges.MIN;
    static final int MAX = Edges.MAX;

    static void due(String call, long got, long want) {
        Edges.due(call, got, want);
    }

    static KegBrooks of(String text) {
        return Edges.of(text);
    }

    static void feedText(KegBrooks x, String text) {
        Edges.feedText(x, text);
    }

    /** A text that is taken: so many lines, no fault, an empty tape. */
    static KegBrooks taken(String text, int lines) {
        KegBrooks x = new KegBrooks();
        feedText(x, text);
        due("text of '" + text + "'", x.text(), lines);
        due("fault of '" + text + "'", x.fault(), 0);
        due("tape behind '" + text + "'", x.count(2), 0);
        return x;
    }

    /** A text that is refused by a fault at a place: what was there stays. */
    static void refusedText(String text, int fault, int place) {
        KegBrooks x = new KegBrooks();
        x.men(0, 5);
        x.breaks(6);
        x.put(4);
        x.go(0, 0, false);
        x.keep(1);
        x.tell(3, 4);
        feedText(x, text);
        due("text of '" + text + "'", x.text(), -10 - place);
        due("fault of '" + text + "'", x.fault(), fault);
        due("tape behind '" + text + "'", x.count(2), 0);
        due("cells behind '" + text + "'", x.rule(0), 5);
        due("keg behind '" + text + "'", x.rule(1), 4);
        due("rest behind '" + text + "'", x.rule(2), 2);
        due("break behind '" + text + "'", x.rule(3), 6);
        due("minute behind '" + text + "'", x.rule(4), 1);
        due("men behind '" + text + "'", x.side(0, 0), 5);
        due("told behind '" + text + "'", x.count(0), 1);
        due("images behind '" + text + "'", x.count(1), 1);
    }
}
