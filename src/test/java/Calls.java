/** One call of LetterWalls by name. */
final class Calls {
    static final String[] NAMES = {
        "wall", "wallIs", "as", "set", "brick", "brickOf", "readAs", "word", "letter", "wordIs", "feed", "text",
        "untell", "says", "doors", "spare", "others", "steps", "mends", "wish", "heap", "price", "have", "lay",
        "falls", "builds", "years", "seed", "voice", "body", "sheet", "put", "move", "bricks", "image", "restore",
        "tell", "check", "count", "told",
    };

    private Calls() {
    }

    static int answer(LetterWalls x, String call, long[] a) {
        int p = a.length > 0 ? (int) a[0] : 0;
        int q = a.length > 1 ? (int) a[1] : 0;
        int r = a.length > 2 ? (int) a[2] : 0;
        int t = a.length > 3 ? (int) a[3] : 0;
        int u = a.length > 4 ? (int) a[4] : 0;
        switch (call) {
            case "wall": return x.wall(p, q);
            case "wallIs": return x.wallIs(p, q);
            case "as": return x.as(p, q);
            case "set": return x.set(p, q, r);
            case "brick": return x.brick(p, q, r);
            case "brickOf": return x.brickOf(p, q);
            case "readAs": return x.readAs(p, q);
            case "word": return x.word(p, q);
            case "letter": return x.letter(p, q);
            case "wordIs": return x.wordIs(p, q);
            case "feed": return x.feed(a[0], q);
            case "text": return x.text(p);
            case "untell": return x.untell(p);
            case "says": return x.says(p, q);
            case "doors": return x.doors(p, q);
            case "spare": return x.spare(p);
            case "others": return x.others(p, q);
            case "steps": return x.steps(p);
            case "mends": return x.mends(p);
            case "wish": return x.wish(p, q);
            case "heap": return x.heap(p, q);
            case "price": return x.price(p);
            case "have": return x.have(p, q);
            case "lay": return x.lay(p, q, r, t);
            case "falls": return x.falls(p);
            case "builds": return x.builds(p, q);
            case "years": return x.years(p);
            case "seed": return x.seed(p);
            case "voice": return x.voice(p, q, r);
            case "body": return x.body(p);
            case "sheet": return x.sheet(p, q, r);
            case "put": return x.put(p, q, r);
            case "move": return x.move(p, q, r, t, u);
            case "bricks": return x.bricks(p, q);
            case "image": return x.image();
            case "restore": return x.restore();
            case "tell": return x.tell(p);
            case "check": return x.check(p);
            case "count": return x.count(p);
            case "told": return x.told(p);
            default: throw new IllegalArgumentException(call);
        }
    }

    static String shown(String call, long[] a) {
        StringBuilder out = new StringBuilder(call).append('(');
        for (int i = 0; i < a.length; i++) {
            out.append(i == 0 ? "" : ", ").append(a[i]);
        }
        return out.append(')').toString();
    }
}
