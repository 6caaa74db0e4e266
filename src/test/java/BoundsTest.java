/**
 * The boundary cases: for each sentence of the document that names one a method of its own, named after
 * its promise and its case, which quotes the sentence. Run in this folder.
 */
public final class BoundsTest {
    public static void main(String[] args) {
        BoundsOfConcepts.run();
        BoundsOfTeachers.run();
        BoundsOfLearners.run();
        BoundsOfDimensions.run();
        BoundsOfExperts.run();
        BoundsOfMachines.run();
        BoundsOfCodes.run();
        BoundsOfSums.run();
        BoundsOfRefusals.run();
        Doc.isAllQuoted();
        Check.done("BoundsTest");
    }
}
