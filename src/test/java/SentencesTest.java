/** Every sentence of "Terms" and of the promises in ../shared/DOC.md has a test of its own, and holds. */
final class SentencesTest {
    public static void main(String[] args) {
        SentencesOfTerms.test();
        SentencesOfCommands.test();
        SentencesOfChanges.test();
        SentencesOfQuestions.test();
        SentencesOfVerdicts.test();
        SentencesOfUndo.test();
        Sentences.checkAllTested();
        Check.end();
    }
}
