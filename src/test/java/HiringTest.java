/** Promises 34 to 41: hiring. */
public final class HiringTest {
    public static void main(String[] args) {
        hire();
        hireBest();
        dismiss();
        match();
        matchLeavesTheHiredAlone();
        matchInEveryOrder();
        mostHires();
        blockingPairs();
        Check.finish("HiringTest");
    }

    private static void hire() {
        CloudInterviews x = new CloudInterviews();
        x.addApplicant('c', 50, 5);
        x.addApplicant('s', 50, 5);
        x.addApplicant('s', 50, 5);
        x.openPost('c', 50, 5, 1);
        x.openPost('*', 0, 50, 1);
        x.openPost('n', 0, 50, 1);
        Check.outOfBounds("34 no post", () -> x.hire(3, 0));
        Check.outOfBounds("34 negative post", () -> x.hire(-1, 0));
        Check.outOfBounds("34 the post comes first", () -> x.hire(3, 9));
        Check.noSuchElement("34 nobody", () -> x.hire(0, 3));
        Check.unsupported("34 does not suit", () -> x.hire(0, 1));
        Check.due("34", 2, () -> x.hire(0, 0));
        Check.illegalState("34 the post is filled", () -> x.hire(0, 1));
        Check.noSuchElement("34 nobody before filled", () -> x.hire(0, 3));
        Check.illegalState("34 the applicant is hired", () -> x.hire(1, 0));
        Check.illegalState("34 hired before unsuited", () -> x.hire(2, 0));
        Check.due("34 second", 1, () -> x.hire(1, 2));
        Check.due("34 who is where", "0 2", () -> x.filledBy(0) + " " + x.filledBy(1));
        Check.due("34 changes that counted", 8, x::undoCount);
    }

    private static void hireBest() {
        CloudInterviews x = new CloudInterviews();
        x.addApplicant('c', 50, 5);
        x.addApplicant('c', 55, 10);
        x.addApplicant('s', 90, 5);
        x.openPost('c', 0, 50, 1);
        x.openPost('c', 0, 50, 1);
        Check.outOfBounds("35 no post", () -> x.hireBest(2));
        Check.due("35 the smaller id", 0, () -> x.hireBest(1));
        Check.illegalState("35 filled", () -> x.hireBest(1));
        Check.due("35 the next", 1, () -> x.hireBest(0));
        Check.due("35 where", "1 0", () -> x.filledBy(0) + " " + x.filledBy(1));
        Check.illegalState("35 filled comes before nobody suits", () -> x.hireBest(0));
        x.openPost('c', 0, 50, 1);
        Check.noSuchElement("35 nobody waiting suits", () -> x.hireBest(2));
    }

    private static void dismiss() {
        CloudInterviews x = new CloudInterviews();
        x.addApplicant('c', 50, 5);
        x.addApplicant('c', 55, 5);
        x.removeApplicant(0);
        x.openPost('c', 0, 50, 3);
        Check.illegalState("36 vacant", () -> x.dismiss(0));
        x.hireBest(0);
        x.passDays(1);
        Check.outOfBounds("36 no post", () -> x.dismiss(1));
        Check.outOfBounds("36 negative", () -> x.dismiss(-1));
        Check.due("36 the id", 1, () -> x.dismiss(0));
        Check.due("36 waits", false, () -> x.isHired(1));
        Check.due("36 keeps the coins", 3, () -> x.coins(1));
        Check.due("36 the post is vacant", 1, x::vacantCount);
        Check.illegalState("36 again", () -> x.dismiss(0));
    }

    private static void match() {
        CloudInterviews x = new CloudInterviews();
        Check.due("37 empty", 0, x::match);
        Check.due("37 is a change also then", 1, x::undoCount);
        x.addApplicant('c', 90, 0);
        x.addApplicant('s', 80, 0);
        x.addApplicant('c', 95, 5);
        x.addApplicant('c', 10, 0);
        x.openPost('c', 0, 50, 10);
        x.openPost('*', 0, 50, 30);
        x.openPost('*', 0, 50, 30);
        x.openPost('n', 0, 50, 99);
        Check.due("37", 3, x::match);
        Check.due("37 of equal scores the smaller id, of equal wages the smaller index", "3 0 2 -",
                () -> Check.output(x, x.writePosts()));
        Check.due("37 who is refused waits", false, () -> x.isHired(1));
        Check.due("37 the result is stable", 0, x::blockingPairs);
        x.undo();
        x.addReference(3, 1);
        x.addReference(2, 1);
        Check.due("37 references count", 3, x::match);
        Check.due("37 a refused one proposes again", "2 1 0 -", () -> Check.output(x, x.writePosts()));
    }

    private static void matchLeavesTheHiredAlone() {
        CloudInterviews x = new CloudInterviews();
        x.addApplicant('c', 10, 0);
        x.addApplicant('c', 90, 0);
        x.addApplicant('c', 50, 0);
        x.openPost('c', 0, 50, 99);
        x.openPost('c', 0, 50, 1);
        x.hire(0, 0);
        Check.due("37 one post is left", 1, x::match);
        Check.due("37 the filled one stays", "0 1", () -> Check.output(x, x.writePosts()));
        Check.due("37 nothing is left", 0, x::match);
        x.openPost('c', 0, 50, 50);
        x.dismiss(0);
        Check.due("37 the hired one does not move", 2, x::match);
        Check.due("37 who is where now", "2 1 0", () -> Check.output(x, x.writePosts()));
    }

    /** Four applicants and three posts in every order: who gets what is always the same. */
    private static void matchInEveryOrder() {
        char[] shapes = {'c', 's', 'c', 'n'};
        int[] whiteness = {90, 80, 70, 60};
        for (int people = 0; people < 24; people++) {
            for (int offers = 0; offers < 6; offers++) {
                CloudInterviews x = new CloudInterviews();
                int[] personOfId = order(4, people);
                for (int person : personOfId) {
                    x.addApplicant(shapes[person], whiteness[person], 10);
                }
                int[] offerOfPost = order(3, offers);
                for (int offer : offerOfPost) {
                    x.openPost(offer == 0 ? 'c' : '*', offer == 1 ? 75 : 0, 50, 30 - offer * 10);
                }
                Check.due("37 three of four", 3, x::match);
                StringBuilder got = new StringBuilder();
                for (int person = 0; person < 4; person++) {
                    int post = postOrNone(x, indexOf(personOfId, person));
                    got.append(post < 0 ? "-" : offerOfPost[post]);
                }
                Check.due("37 order " + people + " " + offers, "012-", () -> got);
            }
        }
    }

    private static int postOrNone(CloudInterviews x, int id) {
        return x.isHired(id) ? x.postOf(id) : -1;
    }

    private static int indexOf(int[] row, int wanted) {
        int index = 0;
        while (row[index] != wanted) {
            index++;
        }
        return index;
    }

    /** The numbers below a count in one of their orders. */
    private static int[] order(int count, int number) {
        int[] order = new int[count];
        int rest = number;
        for (int i = 0; i < count; i++) {
            int place = rest % (i + 1);
            rest /= i + 1;
            order[i] = order[place];
            order[place] = i;
        }
        return order;
    }

    private static void mostHires() {
        CloudInterviews x = new CloudInterviews();
        both(x, "38, 39 empty", 0);
        for (int i = 0; i < 6; i++) {
            x.openPost(i < 3 ? 'c' : '*', i * 10, 50, 5);
        }
        both(x, "38, 39 no applicants", 0);
        x.addApplicant('c', 100, 0);
        both(x, "38, 39 one", 1);
        x.addApplicant('c', 0, 0);
        both(x, "38, 39 needs a path", 2);
        x.addApplicant('c', 10, 0);
        x.addApplicant('c', 0, 0);
        both(x, "38, 39 two for one post", 3);
        x.addApplicant('s', 100, 0);
        x.addApplicant('s', 40, 0);
        x.addApplicant('s', 30, 0);
        both(x, "38, 39 a long path", 6);
        x.hire(5, 0);
        both(x, "38, 39 the hired and the filled take no part", 4);
        Check.due("38 changes nothing", 6, x::waitingCount);
    }

    private static void both(CloudInterviews x, String what, int want) {
        Check.due(what + " by paths", want, x::mostHires);
        Check.due(what + " by sets", want, x::mostHiresBySets);
    }

    private static void blockingPairs() {
        CloudInterviews x = new CloudInterviews();
        pairs(x, "40, 41 empty", 0);
        x.addApplicant('c', 50, 0);
        x.addApplicant('c', 60, 0);
        x.addApplicant('s', 50, 0);
        pairs(x, "40, 41 no posts", 0);
        x.openPost('c', 0, 50, 10);
        x.openPost('*', 0, 50, 20);
        pairs(x, "40, 41 all suited pairs", 5);
        x.hire(0, 0);
        pairs(x, "40, 41 hired: only better posts; filled: only better applicants", 4);
        x.hire(1, 2);
        pairs(x, "40, 41 the smaller id is better", 3);
        x.dismiss(1);
        x.hire(1, 1);
        pairs(x, "40, 41 stable", 0);
        x.openPost('*', 0, 50, 20);
        pairs(x, "40, 41 the same wage at a later index", 2);
        x.closePost(1);
        pairs(x, "40, 41 after closing", 4);
    }

    private static void pairs(CloudInterviews x, String what, int want) {
        Check.due(what, want, x::blockingPairs);
        Check.due(what + " by preference", want, x::blockingPairsByPreference);
    }
}
