/** The example of README.md answers what stands there. */
public final class ReadmeTest {
    public static void main(String[] args) {
        Checks c = new Checks();
        StoneWorks x = new StoneWorks();
        c.due("feed", x.feed(0x63757420, 0x313B7761, 0x7920313B, 0x72616674, 0x20310000), 20);
        c.due("end(18)", x.end(18), 18);
        c.due("table()", x.table(), 3);
        c.due("gang(50)", x.gang(50), 0);
        c.due("boat(0, 5000)", x.boat(0, 5000), 1);
        c.due("spell(0, 0, 3000)", x.spell(0, 0, 3000), 1);
        c.due("stone(10, 0)", x.stone(10, 0), 0);
        c.due("raise(0)", x.raise(0), 0);
        c.due("pass(1)", x.pass(1), 1);
        c.due("plan()", x.plan(), 5);
        c.due("planned(0, 1)", x.planned(0, 1), 0);
        for (int work = 0; work < 5; work++) {
            c.due("send(0, 0)", x.send(0, 0), 0);
            c.due("pass(1)", x.pass(1), work + 2);
        }
        c.due("about(0, 0)", x.about(0, 0), 5);
        c.due("about(0, 3)", x.about(0, 3), 5);
        c.due("tally(0, 0, 5, 1)", x.tally(0, 0, 5, 1), 0);
        c.due("isTrue(0)", x.isTrue(0), 1);
        c.due("tally(0, 1, 3, 2)", x.tally(0, 1, 3, 2), 1);
        c.due("quarrel()", x.quarrel(), 2);
        c.finish();
    }
}
