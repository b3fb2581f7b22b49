/** A test of its own for each sentence of the document that names a boundary case; none of them is left out. */
public final class SentencesTest {
    private SentencesTest() {
    }

    public static void main(String[] args) {
        SentencesTerms1.all();
        SentencesTerms2.all();
        SentencesTerms3.all();
        SentencesTerms4.all();
        SentencesTerms5.all();
        SentencesBooks.all();
        SentencesBoards.all();
        SentencesSetting.all();
        SentencesTexts.all();
        SentencesYears.all();
        SentencesSheets.all();
        SentencesRows.all();
        Doc.isWhole();
        Due.end();
    }
}
