/** What the document says that asks nothing of any call: headings of the interface. */
final class Remarks extends Edge {
    private Remarks() {
    }

    static void all() {
        says(1, "Ahead of the calls `borrower`, `of`, `set`, `row`, `depth`, `change`, `call`, `feed`, `country`, `told` the interface says: ---- borrowers, countries.");
        says(12, "Ahead of the calls `pass`, `on`, `lowest`, `first` the interface says: ---- days.");
        says(16, "Ahead of the calls `best`, `seldom`, `more` the interface says: ---- what is best.");
        says(19, "Ahead of the calls `see`, `wanted`, `can`, `odds`, `mean` the interface says: ---- seen, odds.");
        says(24, "Ahead of the calls `year`, `gone`, `book`, `looked` the interface says: ---- years, books.");
        says(28, "Ahead of the calls `judge`, `image`, `undo`, `act`, `trace`, `taken`, `count`, `tape`, `item`, `read`, `shift` the interface says: ---- judging, the image, acts, tapes.");
    }
}
