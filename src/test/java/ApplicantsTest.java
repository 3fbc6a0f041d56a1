/** Promises 1 to 15: a new object and applicants. */
public final class ApplicantsTest {
    public static void main(String[] args) {
        newObject();
        addApplicant();
        removeApplicant();
        rejectRainy();
        counts();
        applicantByPosition();
        properties();
        hired();
        scores();
        Check.finish("ApplicantsTest");
    }

    private static void newObject() {
        CloudInterviews x = new CloudInterviews();
        Check.due("1 applicants", 0, x::applicantCount);
        Check.due("1 posts", 0, x::postCount);
        Check.due("1 day", 0, x::day);
        Check.due("1 undoCount", 0, x::undoCount);
        Check.due("1 waiting", 0, x::waitingCount);
        Check.due("1 vacant", 0, x::vacantCount);
        Check.due("1 consistent", true, x::isConsistent);
        CloudInterviews y = new CloudInterviews();
        y.addApplicant('c', 1, 1);
        Check.due("1 objects share nothing", 0, x::applicantCount);
    }

    private static void addApplicant() {
        CloudInterviews x = new CloudInterviews();
        Check.due("2 first id", 0, () -> x.addApplicant('c', 0, 0));
        Check.due("2 second id", 1, () -> x.addApplicant('s', 100, 50));
        Check.due("2 third id", 2, () -> x.addApplicant('n', 50, 25));
        for (char wrong : new char[] {'*', 'C', 'a', ' ', 0, 65535, (char) ('c' + 256)}) {
            Check.illegalArgument("2 shape " + (int) wrong, () -> x.addApplicant(wrong, 1, 1));
        }
        for (int wrong : new int[] {-1, 101, Integer.MIN_VALUE, Integer.MAX_VALUE}) {
            Check.illegalArgument("2 whiteness " + wrong, () -> x.addApplicant('c', wrong, 1));
        }
        for (int wrong : new int[] {-1, 51, Integer.MIN_VALUE, Integer.MAX_VALUE}) {
            Check.illegalArgument("2 rain " + wrong, () -> x.addApplicant('c', 1, wrong));
        }
        Check.due("2 refused ones are not there", 3, x::applicantCount);
        Check.due("2 new ones wait", false, () -> x.isHired(2));
        Check.due("2 new ones have no coins", 0, () -> x.coins(2));
        for (int id = 3; id < 10; id++) {
            Check.due("2 ids ascend", id, () -> x.addApplicant('c', 1, 1));
        }
        Check.illegalState("2 the eleventh", () -> x.addApplicant('c', 1, 1));
        Check.illegalArgument("2 the argument is looked at first", () -> x.addApplicant('x', 1, 1));
        x.removeApplicant(9);
        Check.due("2 an id is not given again", 10, () -> x.addApplicant('c', 1, 1));
    }

    private static void removeApplicant() {
        CloudInterviews x = new CloudInterviews();
        x.addApplicant('c', 10, 1);
        x.addApplicant('s', 20, 2);
        x.addApplicant('n', 30, 3);
        x.openPost('*', 0, 50, 7);
        x.hire(0, 1);
        x.passDays(2);
        x.addReference(0, 2);
        x.addReference(1, 2);
        x.addReference(2, 0);
        x.addReference(1, 0);
        Check.noSuchElement("3 no such applicant", () -> x.removeApplicant(3));
        Check.noSuchElement("3 negative", () -> x.removeApplicant(-1));
        Check.due("3 the coins", 14, () -> x.removeApplicant(1));
        Check.noSuchElement("3 has left", () -> x.removeApplicant(1));
        Check.due("3 the post is vacant", 1, x::vacantCount);
        Check.due("3 references from the one who left", 1, () -> x.referencesFor(2));
        Check.due("3 references stay with their owners", true, () -> x.hasReference(0, 2));
        Check.due("3 references stay with their owners", true, () -> x.hasReference(2, 0));
        Check.due("3 others keep what they are", "n30/3", () -> x.shape(2) + "" + x.whiteness(2) + "/" + x.rain(2));
        Check.due("3 no coins", 0, () -> x.removeApplicant(0));
        Check.due("3 references for the last one", 0, () -> x.referencesFor(2));
        coinsStayWithTheirOwners();
    }

    private static void coinsStayWithTheirOwners() {
        CloudInterviews x = new CloudInterviews();
        x.addApplicant('c', 10, 1);
        x.addApplicant('c', 20, 2);
        x.openPost('*', 0, 50, 7);
        x.hire(0, 1);
        x.passDays(3);
        x.removeApplicant(0);
        Check.due("3 the coins of a later one", 21, () -> x.coins(1));
        Check.due("3 the post of a later one", 0, () -> x.postOf(1));
        Check.due("3 the coins again", 21, () -> x.removeApplicant(1));
        x.addApplicant('c', 30, 3);
        Check.due("2 no coins in a place that was left", 0, () -> x.coins(2));
        Check.due("2 no post in a place that was left", false, () -> x.isHired(2));
    }

    private static void rejectRainy() {
        CloudInterviews x = new CloudInterviews();
        x.openPost('*', 0, 50, 7);
        x.addApplicant('c', 10, 20);
        x.addApplicant('s', 20, 21);
        x.addApplicant('n', 30, 50);
        x.addApplicant('n', 30, 50);
        x.hire(0, 2);
        Check.illegalArgument("4 below", () -> x.rejectRainy(-1));
        Check.illegalArgument("4 above", () -> x.rejectRainy(51));
        Check.due("4 none is above 50", 0, () -> x.rejectRainy(50));
        Check.due("4 not those at the limit or hired", 2, () -> x.rejectRainy(20));
        Check.due("4 who stays", "0 2", () -> x.applicant(0) + " " + x.applicant(1));
        Check.due("4 the count", 2, x::applicantCount);
        Check.due("4 limit 0", 1, () -> x.rejectRainy(0));
        Check.due("4 the hired one stays", 2, () -> x.filledBy(0));
        CloudInterviews full = new CloudInterviews();
        for (int i = 0; i < 10; i++) {
            full.addApplicant('c', 5, i * 5);
        }
        Check.due("4 of a full board", 7, () -> full.rejectRainy(12));
        Check.due("4 who is left of a full board", 2, () -> full.applicant(2));
        Check.due("4 all the rest", 3, () -> {
            full.addApplicant('s', 1, 1);
            return full.rejectRainy(0);
        });
    }

    private static void counts() {
        CloudInterviews x = new CloudInterviews();
        x.openPost('*', 0, 50, 7);
        x.addApplicant('c', 10, 20);
        x.addApplicant('c', 11, 20);
        Check.due("5", 2, x::applicantCount);
        Check.due("6", 2, x::waitingCount);
        x.hire(0, 0);
        Check.due("5 hired ones count", 2, x::applicantCount);
        Check.due("6 hired ones do not wait", 1, x::waitingCount);
        x.removeApplicant(0);
        Check.due("5 after leaving", 1, x::applicantCount);
        Check.due("6 after leaving", 1, x::waitingCount);
    }

    private static void applicantByPosition() {
        CloudInterviews x = new CloudInterviews();
        Check.outOfBounds("7 empty", () -> x.applicant(0));
        for (int i = 0; i < 10; i++) {
            x.addApplicant('c', 100 - i, i);
        }
        x.removeApplicant(0);
        x.removeApplicant(5);
        Check.due("7 first", 1, () -> x.applicant(0));
        Check.due("7 behind a gap", 6, () -> x.applicant(4));
        Check.due("7 last", 9, () -> x.applicant(7));
        for (int wrong : new int[] {-1, 8, 10, Integer.MIN_VALUE, Integer.MAX_VALUE}) {
            Check.outOfBounds("7 position " + wrong, () -> x.applicant(wrong));
        }
    }

    private static void properties() {
        CloudInterviews x = new CloudInterviews();
        x.addApplicant('c', 0, 50);
        x.addApplicant('s', 100, 0);
        x.addApplicant('n', 33, 44);
        Check.due("8", "csn", () -> "" + x.shape(0) + x.shape(1) + x.shape(2));
        Check.due("9", "0 100 33", () -> x.whiteness(0) + " " + x.whiteness(1) + " " + x.whiteness(2));
        Check.due("10", "50 0 44", () -> x.rain(0) + " " + x.rain(1) + " " + x.rain(2));
        Check.due("11", "0 0 0", () -> x.coins(0) + " " + x.coins(1) + " " + x.coins(2));
        x.removeApplicant(0);
        for (int wrong : new int[] {0, 3, -1, Integer.MIN_VALUE, Integer.MAX_VALUE}) {
            Check.noSuchElement("8 id " + wrong, () -> x.shape(wrong));
            Check.noSuchElement("9 id " + wrong, () -> x.whiteness(wrong));
            Check.noSuchElement("10 id " + wrong, () -> x.rain(wrong));
            Check.noSuchElement("11 id " + wrong, () -> x.coins(wrong));
            Check.noSuchElement("12 id " + wrong, () -> x.isHired(wrong));
            Check.noSuchElement("13 id " + wrong, () -> x.postOf(wrong));
            Check.noSuchElement("14 id " + wrong, () -> x.score(wrong));
        }
        x.openPost('*', 0, 50, 99);
        x.hire(0, 1);
        x.passDays(30);
        Check.due("10 rain grows", 30, () -> x.rain(1));
        Check.due("11 coins grow", 2970, () -> x.coins(1));
    }

    private static void hired() {
        CloudInterviews x = new CloudInterviews();
        x.addApplicant('c', 10, 0);
        x.addApplicant('c', 20, 0);
        x.openPost('*', 0, 50, 9);
        x.openPost('*', 0, 50, 9);
        Check.noSuchElement("13 waiting", () -> x.postOf(1));
        x.hire(1, 1);
        Check.due("12 hired", true, () -> x.isHired(1));
        Check.due("12 waiting", false, () -> x.isHired(0));
        Check.due("13 hired", 1, () -> x.postOf(1));
        x.closePost(0);
        Check.due("13 the index moves down", 0, () -> x.postOf(1));
        x.dismiss(0);
        Check.due("12 dismissed", false, () -> x.isHired(1));
        Check.noSuchElement("13 dismissed", () -> x.postOf(1));
    }

    private static void scores() {
        CloudInterviews x = new CloudInterviews();
        Check.outOfBounds("15 empty", () -> x.applicantByScore(0));
        x.addApplicant('c', 0, 50);
        x.addApplicant('c', 40, 0);
        x.addApplicant('c', 60, 10);
        x.addApplicant('c', 50, 10);
        Check.due("14 negative", -50, () -> x.score(0));
        Check.due("14", 50, () -> x.score(2));
        Check.due("15 the highest", 2, () -> x.applicantByScore(0));
        Check.due("15 the smaller id of two", 1, () -> x.applicantByScore(1));
        Check.due("15 the larger id of two", 3, () -> x.applicantByScore(2));
        Check.due("15 the lowest", 0, () -> x.applicantByScore(3));
        x.addReference(0, 3);
        x.addReference(1, 3);
        Check.due("14 ten for each reference", 60, () -> x.score(3));
        Check.due("15 references count", 3, () -> x.applicantByScore(0));
        Check.due("14 giving one does not count", -50, () -> x.score(0));
        x.removeApplicant(1);
        Check.due("14 a lost reference", 50, () -> x.score(3));
        for (int wrong : new int[] {-1, 3, Integer.MIN_VALUE, Integer.MAX_VALUE}) {
            Check.outOfBounds("15 rank " + wrong, () -> x.applicantByScore(wrong));
        }
        closeScores();
        Check.due("14 the whiteness less the rain", "40/10", () -> {
            x.openPost('*', 0, 50, 1);
            x.hire(0, 3);
            x.passDays(10);
            return x.score(3) + "/" + (x.score(3) - x.whiteness(3) + x.rain(3));
        });
    }

    private static void closeScores() {
        CloudInterviews x = new CloudInterviews();
        for (int i = 0; i < 10; i++) {
            x.addApplicant('c', 50 + i, 0);
        }
        for (int i = 0; i < 10; i++) {
            int rank = i;
            Check.due("15 one point is enough, rank " + i, 9 - i, () -> x.applicantByScore(rank));
        }
        Check.outOfBounds("15 a full board has no rank 10", () -> x.applicantByScore(10));
    }
}
