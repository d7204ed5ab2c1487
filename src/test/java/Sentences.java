import java.util.ArrayList;
import java.util.List;

/** All sentences of the document that name a boundary case. */
final class Sentences {
    private Sentences() {
    }

    static List<Sentence> all() {
        List<Sentence> all = new ArrayList<>();
        all.addAll(SentencesOfTime.all());
        all.addAll(SentencesOfCookies.all());
        all.addAll(SentencesOfOpening.all());
        all.addAll(SentencesOfAccepting.all());
        all.addAll(SentencesOfConnections.all());
        all.addAll(SentencesOfService.all());
        all.addAll(SentencesOfState.all());
        return all;
    }

    /** Runs one sentence's test alone and in silence; BrokenSentencesTest calls this by its name. */
    static int wrongAnswers(int index) {
        Expect.beQuiet();
        int before = Expect.wrongSoFar();
        all().get(index).test.run();
        return Expect.wrongSoFar() - before;
    }
}
