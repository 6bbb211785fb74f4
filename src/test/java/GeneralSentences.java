import java.util.List;

/** What the document says of all calls, ahead of part 1 of the terms. */
final class GeneralSentences extends Group {
    GeneralSentences(Sentences document) {
        super(document);
    }

    @Override
    void all() {
        lastCall();
        numbers();
        refused();
        changesNothing();
    }

    private void lastCall() {
        use();
        says("An object is used for at most 512 calls after it has been made", x -> {
            plains(x, 1);
            for (int i = 0; i < 509; i++) {
                wants(x, 0);
            }
            is("call 511", x.told(0, 8), 509);
            is("call 512", x.count(7), 509);
        });
        says("what later calls answer is free", x -> {
            // They must not throw, though (rule 7 of the language).
            for (int i = 0; i < 2000; i++) {
                x.deal(8);
                x.want(i % 8);
                x.plan(i % 8);
                x.tell(i);
                x.feed(i, i, i);
            }
            is("none threw", 0, 0);
        });
    }

    private void numbers() {
        part(0);
        says("All numbers are whole", x -> {
            is("7/2", value("7/2"), 3);
            is("7/2 twice", value("7/2+7/2"), 6);
            x.leaf(2, 2, 1, NONE);
            is("half of 3", x.told(0, 11), 1);
            x.sheet(0, 1, 1);
            x.mark(0, 0, 99999);
            same("floats are, too", places(x, 0, 1), "99999");
        });
        says("/ cuts towards 0", x -> {
            is("7/2", value("7/2"), 3);
            is("-7/2", value("10+(0-7)/2"), 7);
            is("7/-2", value("10+7/(0-2)"), 7);
            is("-7/-2", value("(0-7)/(0-2)"), 3);
            is("-1/2", value("10+(0-1)/2"), 10);
        });
        says("NONE: there is none", x -> {
            is("the constant", KeptLeaves.NONE, -1000000005);
            plains(x, 1);
            is("on which it leans", x.told(0, 4), -1000000005);
            is("its place", x.told(0, 9), -1000000005);
            is("to throw", x.next(), -1000000005);
        });
        says("(Where a long is told, BAD is it, too.)", x -> {
            is("means", x.means(0), -1000000001L);
            is("means", x.means(4), -1000000001L);
        });
    }

    private void refused() {
        says("A call that is refused answers one of BAD, NO, FULL, or a FINDING", x -> {
            is("BAD", KeptLeaves.BAD, -1000000001);
            is("NO", KeptLeaves.NO, -1000000002);
            is("FULL", KeptLeaves.FULL, -1000000003);
            for (Refusals.Refusal one : Refusals.single()) {
                is(one.name, one.call.applyAsLong(one.scene.get()), one.due);
            }
        });
        says("of several the one that stands first with it", x -> {
            for (Refusals.Refusal one : Refusals.several()) {
                is(one.name, one.call.applyAsLong(one.scene.get()), one.due);
            }
            is("text: the FAULT ahead of FULL", Scenes.full().text(), -112);
        });
    }

    private void leavesAsIs(List<Refusals.Refusal> all) {
        for (Refusals.Refusal one : all) {
            KeptLeaves x = one.scene.get();
            one.call.applyAsLong(x);
            same(one.name, Scenes.seen(x), Scenes.seen(one.scene.get()));
        }
    }

    private void changesNothing() {
        says("and changes nothing", x -> {
            leavesAsIs(Refusals.single());
            leavesAsIs(Refusals.several());
        });
        says("(but the tape and the numbers that wait, where told)", x -> {
            KeptLeaves y = Scenes.rich();
            y.trim(5);
            is("a FAULT", y.text(), -105);
            KeptLeaves z = Scenes.rich();
            z.trim(0);
            same("the tape alone", Scenes.seen(y), Scenes.seen(z));
            KeptLeaves f = Scenes.full();
            f.trim(8);
            is("FULL", f.text(), FULL);
            KeptLeaves g = Scenes.full();
            g.trim(0);
            same("the tape alone", Scenes.seen(f), Scenes.seen(g));
            int[] bad = {0, 31, MIN, MAX};
            for (int n : bad) {
                KeptLeaves v = Scenes.rich();
                is("check " + n, v.check(n), BAD);
                KeptLeaves w = Scenes.rich();
                is("all as told", w.check(2), 0);
                same("the numbers that wait alone", Scenes.seen(v), Scenes.seen(w));
            }
        });
    }
}
