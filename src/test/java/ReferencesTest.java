/** Promises 16 to 20: references. */
public final class ReferencesTest {
    public static void main(String[] args) {
        add();
        remove();
        query();
        leaving();
        Check.finish("ReferencesTest");
    }

    private static CloudInterviews withApplicants(int count) {
        CloudInterviews x = new CloudInterviews();
        for (int i = 0; i < count; i++) {
            x.addApplicant('c', 50, 0);
        }
        return x;
    }

    private static void add() {
        CloudInterviews x = withApplicants(10);
        for (int from = 1; from < 10; from++) {
            int giver = from;
            Check.due("16 from " + from, from, () -> x.addReference(giver, 0));
        }
        Check.due("16 the other way", 1, () -> x.addReference(0, 1));
        Check.illegalState("16 twice", () -> x.addReference(9, 0));
        Check.illegalArgument("16 for oneself", () -> x.addReference(4, 4));
        Check.noSuchElement("16 from nobody", () -> x.addReference(10, 0));
        Check.noSuchElement("16 for nobody", () -> x.addReference(0, -1));
        Check.noSuchElement("16 from nobody for nobody: that first", () -> x.addReference(10, 10));
        Check.due("16 nothing lost", 9, () -> x.referencesFor(0));
    }

    private static void remove() {
        CloudInterviews x = withApplicants(3);
        x.addReference(0, 2);
        x.addReference(1, 2);
        Check.noSuchElement("17 the other way", () -> x.removeReference(2, 0));
        Check.noSuchElement("17 from nobody", () -> x.removeReference(3, 2));
        Check.noSuchElement("17 for nobody", () -> x.removeReference(0, 3));
        Check.noSuchElement("17 for oneself", () -> x.removeReference(2, 2));
        Check.due("17", 1, () -> x.removeReference(0, 2));
        Check.noSuchElement("17 again", () -> x.removeReference(0, 2));
        Check.due("17 the last", 0, () -> x.removeReference(1, 2));
        Check.due("17 can be given again", 1, () -> x.addReference(1, 2));
    }

    private static void query() {
        CloudInterviews x = withApplicants(3);
        x.addReference(0, 2);
        x.addReference(0, 1);
        Check.due("18", true, () -> x.hasReference(0, 2));
        Check.due("18 the other way", false, () -> x.hasReference(2, 0));
        Check.due("18 oneself", false, () -> x.hasReference(1, 1));
        Check.noSuchElement("18 from nobody", () -> x.hasReference(3, 0));
        Check.noSuchElement("18 for nobody", () -> x.hasReference(0, 3));
        Check.due("19", "0 1 1", () -> x.referencesFor(0) + " " + x.referencesFor(1) + " " + x.referencesFor(2));
        Check.due("20", "2 0 0", () -> x.referencesFrom(0) + " " + x.referencesFrom(1) + " " + x.referencesFrom(2));
        x.addReference(2, 0);
        Check.due("20 for the first one", 1, () -> x.referencesFrom(2));
        Check.noSuchElement("19 nobody", () -> x.referencesFor(3));
        Check.noSuchElement("20 nobody", () -> x.referencesFrom(-1));
    }

    private static void leaving() {
        int[] leavers = {4, 9, 0, 5};
        for (int leaves = 1; leaves <= leavers.length; leaves++) {
            CloudInterviews x = withManyReferences();
            boolean[] left = new boolean[10];
            for (int i = 0; i < leaves; i++) {
                x.removeApplicant(leavers[i]);
                left[leavers[i]] = true;
            }
            for (int pair = 0; pair < 100; pair++) {
                int from = pair / 10;
                int to = pair % 10;
                Object due = left[from] || left[to] ? "NoSuchElementException" : isGiven(from, to);
                Check.due("18 " + from + " for " + to + " after " + leaves, due, () -> x.hasReference(from, to));
            }
            int added = x.addApplicant('s', 1, 1);
            Check.due("19 a new one has none", 0, () -> x.referencesFor(added));
            Check.due("20 a new one gave none", 0, () -> x.referencesFrom(added));
        }
    }

    private static CloudInterviews withManyReferences() {
        CloudInterviews x = withApplicants(10);
        for (int from = 0; from < 10; from++) {
            for (int to = 0; to < 10; to++) {
                if (isGiven(from, to)) {
                    x.addReference(from, to);
                }
            }
        }
        return x;
    }

    private static boolean isGiven(int from, int to) {
        return (from * 7 + to * 3) % 4 == 1 && from != to;
    }
}
