/** Promises 21 to 33: posts. */
public final class PostsTest {
    private static final int[] NO_POSTS = {-1, 3, 6, 31, 32, Integer.MIN_VALUE, Integer.MAX_VALUE};

    public static void main(String[] args) {
        open();
        close();
        properties();
        filledBy();
        suits();
        favourite();
        candidates();
        fullBoard();
        Check.finish("PostsTest");
    }

    private static void open() {
        CloudInterviews x = new CloudInterviews();
        for (char wrong : new char[] {'x', 'C', '+', 0, (char) ('*' + 256)}) {
            Check.illegalArgument("21 shape " + (int) wrong, () -> x.openPost(wrong, 1, 1, 1));
        }
        for (int wrong : new int[] {-1, 101, Integer.MAX_VALUE}) {
            Check.illegalArgument("21 whiteness " + wrong, () -> x.openPost('c', wrong, 1, 1));
        }
        for (int wrong : new int[] {-1, 51, Integer.MAX_VALUE}) {
            Check.illegalArgument("21 rain " + wrong, () -> x.openPost('c', 1, wrong, 1));
        }
        for (int wrong : new int[] {-1, 0, 100, Integer.MIN_VALUE}) {
            Check.illegalArgument("21 wage " + wrong, () -> x.openPost('c', 1, 1, wrong));
        }
        Check.due("21 least", 0, () -> x.openPost('*', 0, 0, 1));
        Check.due("21 most", 1, () -> x.openPost('n', 100, 50, 99));
        for (int i = 2; i < 6; i++) {
            Check.due("21 index", i, () -> x.openPost('s', 1, 1, 1));
        }
        Check.illegalState("21 the seventh", () -> x.openPost('c', 1, 1, 1));
        Check.illegalArgument("21 the argument first", () -> x.openPost('c', 1, 1, 0));
        Check.due("23 six", 6, x::postCount);
        Check.due("24 all are vacant", 6, x::vacantCount);
        x.closePost(0);
        Check.due("21 after closing", 5, () -> x.openPost('c', 1, 1, 1));
    }

    private static void close() {
        CloudInterviews x = new CloudInterviews();
        Check.outOfBounds("22 none", () -> x.closePost(0));
        x.openPost('c', 1, 11, 21);
        x.openPost('*', 2, 12, 22);
        x.openPost('n', 3, 13, 23);
        x.addApplicant('c', 50, 0);
        x.addApplicant('n', 50, 0);
        x.hire(1, 0);
        x.hire(2, 1);
        for (int wrong : NO_POSTS) {
            Check.outOfBounds("22 post " + wrong, () -> x.closePost(wrong));
        }
        Check.due("22 vacant", false, () -> x.closePost(0));
        Check.due("22 the later ones move down", "*2/12=22 n3/13=23", () -> post(x, 0) + " " + post(x, 1));
        Check.due("22 who fills them", "0 1", () -> x.filledBy(0) + " " + x.filledBy(1));
        Check.due("22 filled", true, () -> x.closePost(0));
        Check.due("22 the applicant waits", false, () -> x.isHired(0));
        Check.due("22 the other one moves", 0, () -> x.postOf(1));
        Check.outOfBounds("22 beyond the last", () -> x.closePost(1));
        Check.due("22 the last", true, () -> x.closePost(0));
        Check.due("23 none is left", 0, x::postCount);
    }

    private static String post(CloudInterviews x, int post) {
        return x.requiredShape(post) + "" + x.lowestWhiteness(post) + "/" + x.highestRain(post) + "=" + x.wage(post);
    }

    private static void properties() {
        CloudInterviews x = new CloudInterviews();
        x.openPost('c', 0, 50, 1);
        x.openPost('*', 100, 0, 99);
        x.openPost('n', 33, 22, 11);
        x.addApplicant('c', 33, 0);
        Check.due("25", "c*n", () -> "" + x.requiredShape(0) + x.requiredShape(1) + x.requiredShape(2));
        Check.due("26", "0 100 33", () -> x.lowestWhiteness(0) + " " + x.lowestWhiteness(1) + " " + x.lowestWhiteness(2));
        Check.due("27", "50 0 22", () -> x.highestRain(0) + " " + x.highestRain(1) + " " + x.highestRain(2));
        Check.due("28", "1 99 11", () -> x.wage(0) + " " + x.wage(1) + " " + x.wage(2));
        Check.due("23", 3, x::postCount);
        x.hire(0, 0);
        Check.due("24 without the filled one", 2, x::vacantCount);
        Check.due("23 with the filled one", 3, x::postCount);
        for (int wrong : NO_POSTS) {
            Check.outOfBounds("25 post " + wrong, () -> x.requiredShape(wrong));
            Check.outOfBounds("26 post " + wrong, () -> x.lowestWhiteness(wrong));
            Check.outOfBounds("27 post " + wrong, () -> x.highestRain(wrong));
            Check.outOfBounds("28 post " + wrong, () -> x.wage(wrong));
            Check.outOfBounds("29 post " + wrong, () -> x.filledBy(wrong));
            Check.outOfBounds("30 post " + wrong, () -> x.suits(0, wrong));
            Check.outOfBounds("32 post " + wrong, () -> x.bestCandidate(wrong));
            Check.outOfBounds("33 post " + wrong, () -> x.candidateCount(wrong));
        }
    }

    private static void filledBy() {
        CloudInterviews x = new CloudInterviews();
        x.openPost('*', 0, 50, 1);
        x.openPost('*', 0, 50, 1);
        x.addApplicant('c', 10, 0);
        x.addApplicant('c', 20, 0);
        Check.noSuchElement("29 vacant", () -> x.filledBy(0));
        x.hire(1, 1);
        Check.due("29 filled", 1, () -> x.filledBy(1));
        x.removeApplicant(0);
        Check.due("29 it is the id", 1, () -> x.filledBy(1));
        x.removeApplicant(1);
        Check.noSuchElement("29 after leaving", () -> x.filledBy(1));
    }

    private static void suits() {
        CloudInterviews x = new CloudInterviews();
        x.addApplicant('c', 50, 20);
        x.openPost('c', 50, 20, 1);
        x.openPost('*', 50, 20, 1);
        x.openPost('s', 0, 50, 1);
        x.openPost('*', 51, 20, 1);
        x.openPost('*', 50, 19, 1);
        Check.due("30 at the limits", true, () -> x.suits(0, 0));
        Check.due("30 any shape", true, () -> x.suits(0, 1));
        Check.due("30 another shape", false, () -> x.suits(0, 2));
        Check.due("30 not white enough", false, () -> x.suits(0, 3));
        Check.due("30 too much rain", false, () -> x.suits(0, 4));
        x.hire(0, 0);
        Check.due("30 filled", true, () -> x.suits(0, 0));
        Check.due("30 hired for another", true, () -> x.suits(0, 1));
        Check.noSuchElement("30 nobody", () -> x.suits(1, 0));
        Check.noSuchElement("30 nobody comes first", () -> x.suits(1, 9));
        Check.outOfBounds("30 no post", () -> x.suits(0, 5));
    }

    private static void favourite() {
        CloudInterviews x = new CloudInterviews();
        x.addApplicant('c', 50, 20);
        x.addApplicant('s', 10, 20);
        Check.noSuchElement("31 no posts", () -> x.favouritePost(0));
        x.openPost('c', 0, 50, 5);
        x.openPost('c', 0, 50, 9);
        x.openPost('*', 20, 50, 9);
        x.openPost('n', 0, 50, 99);
        Check.due("31 the highest wage, then the smaller index", 1, () -> x.favouritePost(0));
        x.hire(1, 0);
        Check.due("31 also if it is filled", 1, () -> x.favouritePost(0));
        Check.noSuchElement("31 suits none", () -> x.favouritePost(1));
        Check.noSuchElement("31 nobody", () -> x.favouritePost(2));
        x.closePost(1);
        Check.due("31 after closing", 1, () -> x.favouritePost(0));
    }

    private static void candidates() {
        CloudInterviews x = new CloudInterviews();
        x.openPost('*', 20, 50, 5);
        x.openPost('*', 0, 50, 5);
        x.openPost('n', 0, 50, 5);
        Check.noSuchElement("32 no applicants", () -> x.bestCandidate(0));
        Check.due("33 no applicants", 0, () -> x.candidateCount(0));
        x.addApplicant('c', 19, 0);
        x.addApplicant('c', 40, 10);
        x.addApplicant('c', 30, 0);
        x.addApplicant('c', 60, 10);
        Check.due("32 the highest score", 3, () -> x.bestCandidate(0));
        Check.due("33", 3, () -> x.candidateCount(0));
        x.hire(1, 3);
        Check.due("32 the smaller id; hired ones do not count", 1, () -> x.bestCandidate(0));
        Check.due("33 hired ones do not count", 2, () -> x.candidateCount(0));
        Check.due("32 of a filled post", 1, () -> x.bestCandidate(1));
        Check.due("33 of a filled post", 3, () -> x.candidateCount(1));
        x.addReference(0, 2);
        Check.due("32 references count", 2, () -> x.bestCandidate(0));
        Check.noSuchElement("32 nobody suits", () -> x.bestCandidate(2));
        Check.due("33 nobody suits", 0, () -> x.candidateCount(2));
    }

    private static void fullBoard() {
        CloudInterviews x = new CloudInterviews();
        for (int i = 0; i < 10; i++) {
            x.addApplicant('c', 50 + i, 0);
        }
        for (int i = 0; i < 6; i++) {
            x.openPost('c', 52 + i, 50, 10 + i);
        }
        Check.due("31 of six", 5, () -> x.favouritePost(9));
        Check.due("31 the first of six", 0, () -> x.favouritePost(2));
        Check.due("32 of ten", 9, () -> x.bestCandidate(0));
        Check.due("33 of ten", 8, () -> x.candidateCount(0));
        Check.due("37 fills all six", 6, x::match);
        Check.due("49 all six", "4 5 6 7 8 9", () -> Check.output(x, x.writePosts()));
        Check.due("45 all six", 75, x::dailyWages);
        Check.due("22 the first of six", true, () -> x.closePost(0));
        Check.due("13 the last moves down", 4, () -> x.postOf(9));
        Check.due("6 the one waits", 5, x::waitingCount);
    }
}
