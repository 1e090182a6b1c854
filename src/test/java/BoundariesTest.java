/** Every sentence of the document that names a boundary, each with a test of its own; none is left out. */
public final class BoundariesTest {
    private BoundariesTest() {
    }

    public static void main(String[] args) {
        TermsBoundaries.all();
        ChangesBoundaries.all();
        WhatThereIsBoundaries.all();
        JoinsBoundaries.all();
        WhatIfBoundaries.all();
        TextsBoundaries.all();
        UndoSavingBoundaries.all();
        Sentences.everySentenceHasATest();
        Checks.end();
    }
}
