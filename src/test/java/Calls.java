import java.util.List;

/** Calls of an object by their names; it refuses to make more of them than the document promises anything about. */
final class Calls implements Answering {
    static final List<String> NAMES = List.of("sign", "erase", "rule", "article", "under", "refer", "use", "change",
            "forbid", "volume", "contributor", "quarrel", "give", "die", "pass", "print", "supplement", "month", "at",
            "about", "struck", "errata", "open", "contradictions", "readAnew", "synopsis");
    static final int MOST = 512;

    private final CircleOfLeaves x;
    private int made;

    Calls(CircleOfLeaves x) {
        this.x = x;
    }

    @Override
    public long answer(String name, int a, int b) {
        made++;
        if (made > MOST) {
            throw new Error("more calls than are promised");
        }
        switch (name) {
            case "sign": return x.sign((char) a);
            case "erase": return x.erase();
            case "rule": return x.rule(a == 1) ? 1 : 0;
            case "article": return x.article(a, b);
            case "under": return x.under(a, b);
            case "refer": return x.refer(a);
            case "use": return x.use(a, b) ? 1 : 0;
            case "change": return x.change(a, b);
            case "forbid": return x.forbid(a, b == 1) ? 1 : 0;
            case "volume": return x.volume((char) a, b);
            case "contributor": return x.contributor(a);
            case "quarrel": return x.quarrel(a, b) ? 1 : 0;
            case "give": return x.give(a, b);
            case "die": return x.die(a);
            case "pass": return x.pass(a);
            case "print": return x.print(a);
            case "supplement": return x.supplement();
            case "month": return x.month();
            case "at": return x.at(a);
            case "about": return x.about(a, b);
            case "struck": return x.struck();
            case "errata": return x.errata(a);
            case "open": return x.open(a == 1);
            case "contradictions": return x.contradictions(a == 1);
            case "readAnew": return x.readAnew(a == 1);
            case "synopsis": return x.synopsis(a);
            default: throw new Error(name);
        }
    }
}
