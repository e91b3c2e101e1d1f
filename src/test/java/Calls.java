/** A call told by its name and its numbers, so that runs may be drawn, or written in a text. */
final class Calls {
    private Calls() {
    }

    static long answer(CockleSquires x, String name, int... v) {
        switch (name) {
            case "row": return x.row(v[0], v[1], v[2]);
            case "set": return x.set(v[0], v[1], v[2]);
            case "copy": return x.copy(v[0], v[1], v[2], v[3], v[4]);
            case "drop": return x.drop(v[0]);
            case "feed": return x.feed(v[0]);
            case "flat": return x.flat();
            case "fault": return x.fault();
            case "undo": return x.undo();
            case "tides": return x.tides(v[0]);
            case "rake": return x.rake(v[0], v[1]);
            case "rain": return x.rain(v[0], v[1]);
            case "veto": return x.veto(v[0], v[1]);
            case "stand": return x.stand(v[0], v[1]);
            case "bed": return x.bed(v[0], v[1]);
            case "board": return x.board(v[0]);
            case "ahead": return x.ahead(v[0], v[1], v[2]);
            case "tally": return x.tally(v[0], v[1]);
            case "when": return x.when(v[0], v[1]);
            case "place": return x.place(v[0], v[1]);
            case "rests": return x.rests(v[0]);
            case "rakes": return x.rakes(v[0], v[1]);
            case "wards": return x.wards(v[0], v[1], v[2]);
            case "decide": return x.decide();
            case "grown": return x.grown(v[0], v[1], v[2], v[3], v[4]);
            case "lain": return x.lain(v[0], v[1], v[2]);
            case "flood": return x.flood(v[0], v[1], v[2]);
            case "drawn": return x.drawn(v[0], v[1], v[2]);
            case "image": return x.image(v[0]);
            case "restore": return x.restore(v[0]);
            case "kind": return x.kind(v[0]);
            case "as": return x.as(v[0], v[1]);
            case "ask": return x.ask(v[0], v[1]);
            case "trace": return x.trace(v[0]);
            case "count": return x.count(v[0]);
            case "status": return x.status();
            default: throw new IllegalArgumentException(name);
        }
    }
}
