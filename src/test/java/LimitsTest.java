/**
 * The last values that are allowed, the empty board and the full one, promise by promise: what the calls answer there.
 * What they refuse stands in RefusalsTest.
 */
public final class LimitsTest {
    public static void main(String[] args) {
        emptyBoard();
        noPosts();
        noApplicants();
        addApplicant();
        removeApplicant();
        rejectRainy();
        counts();
        positionsAndRanks();
        scores();
        references();
        openPost();
        closePost();
        suits();
        favourites();
        candidates();
        hire();
        match();
        mostHires();
        blockingPairs();
        passDays();
        daysUntilDismissal();
        wagesAndMeans();
        output();
        longestLife();
        Check.finish("LimitsTest");
    }

    private static CloudInterviews withApplicants(int count) {
        CloudInterviews x = new CloudInterviews();
        for (int i = 0; i < count; i++) {
            x.addApplicant('c', 50, 10);
        }
        return x;
    }

    private static void addPosts(CloudInterviews x, int count) {
        for (int i = 0; i < count; i++) {
            x.openPost('*', 0, 50, 10);
        }
    }

    private static CloudInterviews full() {
        CloudInterviews x = withApplicants(10);
        addPosts(x, 6);
        return x;
    }

    private static void emptyBoard() {
        CloudInterviews x = new CloudInterviews();
        Check.due("4 empty", 0, () -> x.rejectRainy(0));
        Check.due("5, 6 empty", "0 0", () -> x.applicantCount() + " " + x.waitingCount());
        Check.due("23, 24 empty", "0 0", () -> x.postCount() + " " + x.vacantCount());
        Check.due("37 empty", 0, x::match);
        Check.due("38, 39 empty", "0 0", () -> x.mostHires() + " " + x.mostHiresBySets());
        Check.due("40, 41 empty", "0 0", () -> x.blockingPairs() + " " + x.blockingPairsByPreference());
        Check.due("42 empty", 0, () -> x.passDays(30));
        Check.due("43 days pass without anybody", 30, x::day);
        Check.due("45 empty", 0, x::dailyWages);
        Check.due("49 empty", 0, x::writePosts);
        Check.outOfBounds("50 no posts, no output", () -> x.outputCharacter(0));
        Check.due("51 empty", true, x::isConsistent);
    }

    private static void noPosts() {
        CloudInterviews x = withApplicants(10);
        Check.due("37 no posts", 0, x::match);
        Check.due("38, 39 no posts", "0 0", () -> x.mostHires() + " " + x.mostHiresBySets());
        Check.due("40, 41 no posts", "0 0", () -> x.blockingPairs() + " " + x.blockingPairsByPreference());
        Check.due("42 nobody is hired", 0, () -> x.passDays(30));
        Check.due("42 nobody gets anything", "10 0", () -> x.rain(0) + " " + x.coins(0));
        Check.arithmetic("47 no posts", x::filledFraction);
        Check.due("46 no posts", 40.0, x::meanScore);
        Check.due("51 no posts", true, x::isConsistent);
    }

    private static void noApplicants() {
        CloudInterviews x = new CloudInterviews();
        addPosts(x, 6);
        Check.due("37 no applicants", 0, x::match);
        Check.due("38, 39 no applicants", "0 0", () -> x.mostHires() + " " + x.mostHiresBySets());
        Check.due("40, 41 no applicants", "0 0", () -> x.blockingPairs() + " " + x.blockingPairsByPreference());
        Check.due("42 no applicants", 0, () -> x.passDays(1));
        Check.arithmetic("46 no applicants", x::meanScore);
        Check.due("47 no applicants", 0.0f, x::filledFraction);
        Check.due("49 six vacant ones", "- - - - - -", () -> Check.output(x, x.writePosts()));
        Check.due("51 no applicants", true, x::isConsistent);
        x.addApplicant('c', 1, 1);
        x.removeApplicant(0);
        Check.arithmetic("46 no applicants again", x::meanScore);
        Check.outOfBounds("7 no applicants again", () -> x.applicant(0));
        Check.outOfBounds("15 no applicants again", () -> x.applicantByScore(0));
    }

    private static void addApplicant() {
        CloudInterviews x = new CloudInterviews();
        char[] shapes = {'c', 's', 'n'};
        int[] whiteness = {0, 1, 99, 100};
        int[] rain = {0, 1, 49, 50};
        for (int i = 0; i < 48; i++) {
            int id = i;
            char shape = shapes[i % 3];
            int white = whiteness[i / 12];
            int wet = rain[i / 3 % 4];
            String due = shape + "" + white + "/" + wet;
            Check.due("2 " + due, id, () -> x.addApplicant(shape, white, wet));
            Check.due("8, 9, 10 " + due, due, () -> x.shape(id) + "" + x.whiteness(id) + "/" + x.rain(id));
            Check.due("11, 12 " + due, "0 false", () -> x.coins(id) + " " + x.isHired(id));
            Check.due("3 no coins", 0, () -> x.removeApplicant(id));
        }
        CloudInterviews y = withApplicants(9);
        Check.due("2 the tenth", 9, () -> y.addApplicant('c', 1, 1));
        Check.illegalState("2 the eleventh", () -> y.addApplicant('c', 1, 1));
        y.removeApplicant(0);
        Check.due("2 the tenth again", 10, () -> y.addApplicant('c', 1, 1));
        Check.illegalState("2 the eleventh again", () -> y.addApplicant('c', 1, 1));
        Check.due("2 on a full board after rejecting", 11, () -> {
            y.rejectRainy(0);
            return y.addApplicant('c', 1, 1);
        });
    }

    private static void removeApplicant() {
        for (int leaver : new int[] {0, 4, 9}) {
            CloudInterviews x = full();
            x.hire(5, leaver);
            x.addReference(leaver, (leaver + 1) % 10);
            x.addReference((leaver + 1) % 10, leaver);
            x.passDays(1);
            Check.due("3 of a full board " + leaver, 10, () -> x.removeApplicant(leaver));
            Check.due("3 the post is vacant", 6, x::vacantCount);
            Check.due("3 nobody fills it", "NoSuchElementException", () -> x.filledBy(5));
            Check.due("3 nine are left", 9, x::applicantCount);
            Check.due("3 the reference from", 0, () -> x.referencesFor((leaver + 1) % 10));
            Check.due("3 the reference for", 0, () -> x.referencesFrom((leaver + 1) % 10));
            Check.due("2 the id is not given again", 10, () -> x.addApplicant('c', 1, 1));
            Check.due("19, 20 the new one has none", 0, () -> x.referencesFor(10) + x.referencesFrom(10));
        }
        CloudInterviews x = withApplicants(10);
        for (int i = 0; i < 10; i++) {
            int left = 9 - i;
            int id = i;
            Check.due("3 down to none", left, () -> {
                x.removeApplicant(id);
                return x.applicantCount();
            });
        }
        Check.due("2 after all have left", 10, () -> x.addApplicant('c', 1, 1));
        Check.due("7 the only one", 10, () -> x.applicant(0));
    }

    private static void rejectRainy() {
        for (int limit : new int[] {0, 1, 25, 49, 50}) {
            CloudInterviews x = new CloudInterviews();
            int above = Math.min(limit + 1, 50);
            x.addApplicant('c', 1, limit);
            x.addApplicant('c', 1, above);
            x.addApplicant('c', 1, above);
            x.addApplicant('c', 1, 50);
            x.openPost('*', 0, 50, 1);
            x.hire(0, 2);
            x.addReference(1, 0);
            x.addReference(0, 1);
            x.addReference(2, 0);
            int due = limit == 50 ? 0 : 2;
            Check.due("4 limit " + limit, due, () -> x.rejectRainy(limit));
            Check.due("4 the one at the limit stays " + limit, limit, () -> x.rain(0));
            Check.due("4 the hired one stays " + limit, 0, () -> x.postOf(2));
            Check.due("4 the count " + limit, 4 - due, x::applicantCount);
            Check.due("4 references from the rejected are lost " + limit, due == 0 ? 2 : 1, () -> x.referencesFor(0));
            Check.due("4 references for the rejected are lost " + limit, due == 0 ? 1 : 0, () -> x.referencesFrom(0));
            Check.due("4 nobody more " + limit, 0, () -> x.rejectRainy(limit));
        }
        CloudInterviews x = withApplicants(10);
        Check.due("4 nobody of ten at the limit", 0, () -> x.rejectRainy(10));
        Check.due("4 all ten above the limit", 10, () -> x.rejectRainy(9));
        Check.due("5 none is left", 0, x::applicantCount);
    }

    private static void counts() {
        CloudInterviews x = full();
        Check.due("5, 6 ten", "10 10", () -> x.applicantCount() + " " + x.waitingCount());
        Check.due("23, 24 six", "6 6", () -> x.postCount() + " " + x.vacantCount());
        x.match();
        Check.due("5, 6 six hired", "10 4", () -> x.applicantCount() + " " + x.waitingCount());
        Check.due("23, 24 all filled", "6 0", () -> x.postCount() + " " + x.vacantCount());
        Check.due("6 all who are there are hired", 0, () -> {
            x.rejectRainy(0);
            return x.waitingCount();
        });
    }

    private static void positionsAndRanks() {
        CloudInterviews x = withApplicants(10);
        for (int i = 0; i < 10; i++) {
            int place = i;
            Check.due("7 position", place, () -> x.applicant(place));
            Check.due("15 all the same score", place, () -> x.applicantByScore(place));
        }
        x.addReference(0, 9);
        Check.due("15 the last one first", "9 0 8",
                () -> x.applicantByScore(0) + " " + x.applicantByScore(1) + " " + x.applicantByScore(9));
        CloudInterviews one = withApplicants(1);
        Check.due("7, 15 the only one", "0 0", () -> one.applicant(0) + " " + one.applicantByScore(0));
        Check.outOfBounds("7 no second one", () -> one.applicant(1));
        Check.outOfBounds("15 no second one", () -> one.applicantByScore(1));
        CloudInterviews negative = new CloudInterviews();
        negative.addApplicant('c', 0, 50);
        negative.addApplicant('c', 0, 49);
        negative.addApplicant('c', 0, 50);
        negative.addApplicant('c', 50, 50);
        Check.due("15 below zero", "3 1 0 2", () -> negative.applicantByScore(0) + " " + negative.applicantByScore(1) + " "
                + negative.applicantByScore(2) + " " + negative.applicantByScore(3));
    }

    private static void scores() {
        CloudInterviews x = new CloudInterviews();
        x.addApplicant('c', 100, 0);
        x.addApplicant('c', 0, 50);
        for (int i = 2; i < 10; i++) {
            x.addApplicant('c', 0, 0);
        }
        Check.due("14 without references", "100 -50 0", () -> x.score(0) + " " + x.score(1) + " " + x.score(2));
        for (int from = 1; from < 10; from++) {
            x.addReference(from, 0);
        }
        Check.due("14 the highest", 190, () -> x.score(0));
        x.openPost('*', 0, 50, 1);
        x.hire(0, 1);
        x.passDays(30);
        Check.due("14 the lowest does not fall", -50, () -> x.score(1));
        x.dismiss(0);
        x.hire(0, 0);
        x.passDays(30);
        Check.due("14 less the rain", 160, () -> x.score(0));
    }

    private static void references() {
        CloudInterviews x = withApplicants(10);
        for (int i = 1; i < 10; i++) {
            int other = i;
            Check.due("16 for the first one", other, () -> x.addReference(other, 0));
            Check.due("16 from the first one", 1, () -> x.addReference(0, other));
        }
        Check.due("19, 20 nine", "9 9 1 1", () -> x.referencesFor(0) + " " + x.referencesFrom(0) + " " + x.referencesFor(9)
                + " " + x.referencesFrom(9));
        Check.due("16 the last two", 2, () -> x.addReference(8, 9));
        Check.due("18 not the other way", "true false", () -> x.hasReference(8, 9) + " " + x.hasReference(9, 8));
        for (int i = 9; i > 0; i--) {
            int other = i;
            Check.due("17 down to none", other - 1, () -> x.removeReference(other, 0));
            Check.noSuchElement("17 it is gone", () -> x.removeReference(other, 0));
            Check.due("18 it is gone", "false true", () -> x.hasReference(other, 0) + " " + x.hasReference(0, other));
        }
        Check.due("19, 20 none for, nine from", "0 9", () -> x.referencesFor(0) + " " + x.referencesFrom(0));
        Check.due("16 once more", 1, () -> x.addReference(9, 0));
    }

    private static void openPost() {
        for (char shape : new char[] {'c', 's', 'n', '*'}) {
            for (int white : new int[] {0, 1, 99, 100}) {
                CloudInterviews x = new CloudInterviews();
                Check.due("21 " + white, "0 1 2 3 4", () -> x.openPost(shape, white, 0, 1) + " "
                        + x.openPost(shape, white, 1, 2) + " " + x.openPost(shape, white, 49, 98) + " "
                        + x.openPost(shape, white, 50, 99) + " " + x.openPost('*', 50, 25, 50));
                Check.due("21 the sixth", 5, () -> x.openPost(shape, white, 50, 99));
                Check.illegalState("21 the seventh", () -> x.openPost(shape, white, 50, 99));
                Check.due("25, 26", shape + "" + white, () -> x.requiredShape(3) + "" + x.lowestWhiteness(3));
                Check.due("27", "0 1 49 50", () -> x.highestRain(0) + " " + x.highestRain(1) + " " + x.highestRain(2) + " "
                        + x.highestRain(5));
                Check.due("28", "1 2 98 99", () -> x.wage(0) + " " + x.wage(1) + " " + x.wage(2) + " " + x.wage(5));
                Check.due("24 all are vacant", 6, x::vacantCount);
            }
        }
    }

    private static void closePost() {
        for (int closed = 0; closed < 6; closed++) {
            int post = closed;
            CloudInterviews x = withApplicants(10);
            for (int i = 0; i < 6; i++) {
                x.openPost('*', i, 50 - i, 10 + i);
                x.hire(i, i);
            }
            x.dismiss(post == 3 ? 4 : 3);
            Check.due("22 the filled one " + post, true, () -> x.closePost(post));
            Check.due("22 who waits " + post, false, () -> x.isHired(post));
            for (int i = 0; i < 5; i++) {
                int now = i;
                int then = i < post ? i : i + 1;
                Check.due("22 what moves " + post + " " + i, then + "/" + (50 - then) + "=" + (10 + then),
                        () -> x.lowestWhiteness(now) + "/" + x.highestRain(now) + "=" + x.wage(now));
                Check.due("22 who moves " + post + " " + i, then == (post == 3 ? 4 : 3) ? "NoSuchElementException" : then,
                        () -> x.filledBy(now));
            }
            Check.outOfBounds("22 no sixth " + post, () -> x.closePost(5));
            Check.due("22 the vacant one " + post, false, () -> x.closePost(post <= 3 ? 3 - (post < 3 ? 1 : 0) : 3));
            Check.due("21 at the end " + post, 4, () -> x.openPost('c', 9, 9, 9));
        }
        CloudInterviews x = full();
        for (int i = 5; i >= 0; i--) {
            int last = i;
            Check.due("22 from the last to the first", false, () -> x.closePost(last));
            Check.due("23 are left", last, x::postCount);
        }
        Check.outOfBounds("22 none is left", () -> x.closePost(0));
    }

    private static void suits() {
        CloudInterviews x = new CloudInterviews();
        x.openPost('s', 50, 25, 1);
        x.openPost('*', 0, 50, 1);
        x.openPost('*', 100, 0, 1);
        Check.due("30 at both limits", "true true false", () -> suitsOf(x, x.addApplicant('s', 50, 25)));
        Check.due("30 one less white", "false true false", () -> suitsOf(x, x.addApplicant('s', 49, 25)));
        Check.due("30 one more rain", "false true false", () -> suitsOf(x, x.addApplicant('s', 50, 26)));
        Check.due("30 whiter, drier", "true true true", () -> suitsOf(x, x.addApplicant('s', 100, 0)));
        Check.due("30 another shape", "false true true", () -> suitsOf(x, x.addApplicant('n', 100, 0)));
        Check.due("30 the worst", "false true false", () -> suitsOf(x, x.addApplicant('c', 0, 50)));
        Check.due("30 just not white enough", "false true false", () -> suitsOf(x, x.addApplicant('c', 99, 0)));
        Check.due("30 just too much rain", "false true false", () -> suitsOf(x, x.addApplicant('c', 100, 1)));
    }

    private static String suitsOf(CloudInterviews x, int id) {
        return x.suits(id, 0) + " " + x.suits(id, 1) + " " + x.suits(id, 2);
    }

    private static void favourites() {
        CloudInterviews x = withApplicants(1);
        addPosts(x, 5);
        Check.due("31 the smallest index of the same wage", 0, () -> x.favouritePost(0));
        x.openPost('*', 0, 50, 11);
        Check.due("31 one coin more, the last", 5, () -> x.favouritePost(0));
        x.closePost(5);
        x.openPost('*', 51, 50, 99);
        Check.due("31 not one that the applicant does not suit", 0, () -> x.favouritePost(0));
        x.closePost(0);
        x.openPost('*', 50, 10, 11);
        Check.due("31 suited at both limits", 5, () -> x.favouritePost(0));
    }

    private static void candidates() {
        CloudInterviews x = full();
        Check.due("33 all ten", 10, () -> x.candidateCount(5));
        Check.due("32 the smallest id of the same score", 0, () -> x.bestCandidate(5));
        x.addReference(0, 9);
        Check.due("32 the last", 9, () -> x.bestCandidate(0));
        for (int i = 0; i < 6; i++) {
            x.hireBest(i);
        }
        Check.due("33 the four who wait", 4, () -> x.candidateCount(0));
        Check.due("32 the first of them", 5, () -> x.bestCandidate(0));
        x.rejectRainy(0);
        Check.due("33 none", 0, () -> x.candidateCount(0));
        Check.noSuchElement("32 none", () -> x.bestCandidate(0));
    }

    private static void hire() {
        CloudInterviews x = full();
        for (int i = 0; i < 6; i++) {
            int post = 5 - i;
            Check.due("34 vacant afterwards", post, () -> x.hire(post, 9 - post));
        }
        Check.due("29 who", "9 8 7 6 5 4", () -> Check.output(x, x.writePosts()));
        for (int i = 0; i < 6; i++) {
            int post = i;
            Check.due("36 who", 9 - post, () -> x.dismiss(post));
            Check.due("24 vacant", post + 1, x::vacantCount);
        }
        for (int i = 0; i < 6; i++) {
            int post = i;
            Check.due("35 the smallest id first", post, () -> x.hireBest(post));
        }
        Check.illegalState("35 all are filled", () -> x.hireBest(5));
        x.closePost(0);
        x.openPost('c', 50, 10, 1);
        Check.due("34 at both limits, the last vacancy", 0, () -> x.hire(5, 9));
    }

    private static void match() {
        CloudInterviews x = full();
        Check.due("37 six of ten", 6, x::match);
        Check.due("37 the smaller ids, the smaller indices", "0 1 2 3 4 5", () -> Check.output(x, x.writePosts()));
        Check.due("37 no vacant posts", 0, x::match);
        x.rejectRainy(0);
        x.dismiss(4);
        x.removeApplicant(4);
        Check.due("37 nobody waits", 0, x::match);
        CloudInterviews few = withApplicants(2);
        addPosts(few, 6);
        Check.due("37 two for six posts", 2, few::match);
        Check.due("37 the smaller indices", "0 1 - - - -", () -> Check.output(few, few.writePosts()));
        CloudInterviews unsuited = withApplicants(10);
        for (int i = 0; i < 6; i++) {
            unsuited.openPost(i < 2 ? 's' : 'c', i < 4 ? 51 : 50, i < 4 ? 50 : 9, 99);
        }
        Check.due("37 nobody suits", 0, unsuited::match);
        manyProposals();
    }

    /** Each applicant is refused by all posts but the last, since each next one is one point better. */
    private static void manyProposals() {
        CloudInterviews x = new CloudInterviews();
        for (int i = 0; i < 10; i++) {
            x.addApplicant('c', i, 0);
        }
        for (int i = 0; i < 6; i++) {
            x.openPost('c', 0, 50, i + 1);
        }
        Check.due("37 ten who all want the same", 6, x::match);
        Check.due("37 the better one for the higher wage", "4 5 6 7 8 9", () -> Check.output(x, x.writePosts()));
        Check.due("40, 41 it is stable", "0 0", () -> x.blockingPairs() + " " + x.blockingPairsByPreference());
    }

    private static void mostHires() {
        for (int posts = 0; posts <= 6; posts++) {
            for (int applicants = 0; applicants <= 10; applicants++) {
                CloudInterviews x = withApplicants(applicants);
                addPosts(x, posts);
                int due = Math.min(posts, applicants);
                Check.due("38 " + applicants + " for " + posts, due, x::mostHires);
                Check.due("39 " + applicants + " for " + posts, due, x::mostHiresBySets);
                Check.due("37 " + applicants + " for " + posts, due, x::match);
                Check.due("38, 39 nothing more", "0 0", () -> x.mostHires() + " " + x.mostHiresBySets());
            }
        }
        longestPath();
    }

    /** Applicant i suits the posts i and i + 1, and the last one only the first post of all. */
    private static void longestPath() {
        CloudInterviews x = new CloudInterviews();
        for (int i = 0; i < 6; i++) {
            x.openPost('*', i * 10, 50 - (5 - i) * 10, 1);
        }
        for (int i = 5; i > 0; i--) {
            x.addApplicant('c', i * 10, 50 - (6 - i) * 10);
        }
        x.addApplicant('c', 0, 0);
        Check.due("38 by a long path", 6, x::mostHires);
        Check.due("39 by a long path", 6, x::mostHiresBySets);
        Check.due("51 by a long path", true, x::isConsistent);
    }

    private static void blockingPairs() {
        CloudInterviews x = full();
        pairs(x, "all wait, all are vacant", 60);
        x.hire(0, 0);
        pairs(x, "the first one has the best post", 45);
        x.dismiss(0);
        x.hire(5, 9);
        pairs(x, "the last one has the last post", 45 + 9 + 5);
        x.dismiss(5);
        for (int i = 0; i < 6; i++) {
            x.hire(5 - i, i);
        }
        pairs(x, "the wrong way round", 15);
        x.undo();
        pairs(x, "the first post is vacant", 10 + 4 + 3 + 2 + 1);
        CloudInterviews one = withApplicants(1);
        addPosts(one, 1);
        pairs(one, "one and one", 1);
        one.match();
        pairs(one, "one for one", 0);
    }

    private static void pairs(CloudInterviews x, String what, int want) {
        Check.due("40 " + what, want, x::blockingPairs);
        Check.due("41 " + what, want, x::blockingPairsByPreference);
    }

    private static void passDays() {
        for (int days : new int[] {1, 2, 29, 30}) {
            CloudInterviews x = new CloudInterviews();
            x.addApplicant('c', 50, 49);
            x.addApplicant('c', 50, 50);
            x.addApplicant('c', 50, 0);
            x.addApplicant('c', 50, 0);
            x.openPost('*', 50, 50, 99);
            x.openPost('*', 50, 50, 1);
            x.openPost('*', 50, days, 7);
            x.openPost('*', 50, days - 1, 5);
            for (int i = 0; i < 4; i++) {
                x.hire(i, i);
            }
            Check.due("42 days " + days, 1, () -> x.passDays(days));
            Check.due("42 rain not above 50", "50 50", () -> x.rain(0) + " " + x.rain(1));
            Check.due("42 wages", 99 * days + " " + days, () -> x.coins(0) + " " + x.coins(1));
            Check.due("42 at the limit stays", "true " + 7 * days, () -> x.isHired(2) + " " + x.coins(2));
            Check.due("42 above the limit goes", "false " + 5 * days + " " + days,
                    () -> x.isHired(3) + " " + x.coins(3) + " " + x.rain(3));
            Check.due("43", days, x::day);
            Check.due("57 it is one change", 8, x::undoCount);
            x.undo();
            Check.due("56 all days are undone", "0 0 0", () -> x.day() + " " + x.rain(2) + " " + x.coins(2));
        }
        sameDay();
    }

    /** All six are dismissed on one day, and none of those who wait gets wet. */
    private static void sameDay() {
        CloudInterviews x = withApplicants(10);
        for (int i = 0; i < 6; i++) {
            x.openPost('*', 0, 10, i + 1);
            x.hire(i, i);
        }
        Check.due("42 six at once", 6, () -> x.passDays(30));
        Check.due("42 each is paid once", "1 6 0", () -> x.coins(0) + " " + x.coins(5) + " " + x.coins(6));
        Check.due("42 each gets one rain", "11 11 10", () -> x.rain(0) + " " + x.rain(5) + " " + x.rain(6));
        Check.due("6 all wait", 10, x::waitingCount);
        Check.due("24 all are vacant", 6, x::vacantCount);
        Check.due("43 all days pass", 30, x::day);
    }

    private static void daysUntilDismissal() {
        for (int rain : new int[] {0, 1, 25, 48, 49}) {
            CloudInterviews x = new CloudInterviews();
            x.addApplicant('c', 0, rain);
            x.addApplicant('c', 0, rain);
            x.addApplicant('c', 0, rain);
            x.openPost('*', 0, rain, 1);
            x.openPost('*', 0, 49, 1);
            x.openPost('*', 0, 50, 1);
            for (int i = 0; i < 3; i++) {
                x.hire(i, i);
            }
            Check.due("44 at the limit " + rain, 1, () -> x.daysUntilDismissal(0));
            Check.due("44 limit 49 " + rain, 50 - rain, () -> x.daysUntilDismissal(1));
            Check.noSuchElement("44 never " + rain, () -> x.daysUntilDismissal(2));
            for (int day = 1; day < 50 - rain; day++) {
                x.passDays(1);
            }
            Check.due("44 still hired " + rain, "true 1", () -> x.isHired(1) + " " + x.daysUntilDismissal(1));
            x.passDays(1);
            Check.noSuchElement("44 dismissed " + rain, () -> x.daysUntilDismissal(1));
            Check.due("44 never comes true " + rain, "true 50", () -> x.isHired(2) + " " + x.rain(2));
            Check.noSuchElement("44 never, at 50 " + rain, () -> x.daysUntilDismissal(2));
        }
    }

    private static void wagesAndMeans() {
        CloudInterviews x = new CloudInterviews();
        for (int i = 0; i < 10; i++) {
            x.addApplicant('c', 100, 0);
        }
        for (int pair = 0; pair < 100; pair++) {
            if (pair / 10 != pair % 10) {
                x.addReference(pair / 10, pair % 10);
            }
        }
        Check.due("46 the highest", 190.0, x::meanScore);
        for (int i = 0; i < 6; i++) {
            x.openPost('*', 0, 50, 99);
            int filled = i;
            Check.due("47 filled " + i, (float) filled / (float) (filled + 1), x::filledFraction);
            Check.due("45 filled " + i, 99 * filled, x::dailyWages);
            x.hire(i, 9 - i);
        }
        Check.due("45 the most", 594, x::dailyWages);
        Check.due("47 all", 1.0f, x::filledFraction);
        CloudInterviews low = new CloudInterviews();
        for (int i = 1; i <= 10; i++) {
            low.addApplicant('c', 0, 50);
            int count = i;
            Check.due("46 the lowest of " + count, -50.0, low::meanScore);
        }
        low.removeApplicant(0);
        low.removeApplicant(1);
        low.removeApplicant(2);
        low.addApplicant('c', 1, 0);
        Check.due("46 a fraction below zero", -349.0 / 8.0, low::meanScore);
        low.removeApplicant(3);
        Check.due("46 a fraction without end", -299.0 / 7.0, low::meanScore);
    }

    private static void output() {
        CloudInterviews x = new CloudInterviews();
        x.addApplicant('s', 0, 0);
        Check.due("48 the shortest", 4, () -> x.writeApplicant(0));
        Check.due("50 first and last", "s0", () -> "" + x.outputCharacter(0) + x.outputCharacter(3));
        Check.outOfBounds("50 behind the last", () -> x.outputCharacter(4));
        Check.outOfBounds("50 before the first", () -> x.outputCharacter(-1));
        Check.due("49 shorter than the one before", 0, x::writePosts);
        Check.outOfBounds("50 nothing stays of it", () -> x.outputCharacter(0));
        CloudInterviews y = new CloudInterviews();
        for (int i = 0; i < 10; i++) {
            y.addApplicant('n', 100, 50);
        }
        for (int i = 0; i < 9; i++) {
            y.addReference(i, 9);
        }
        for (int i = 0; i < 6; i++) {
            y.openPost('*', 0, 50, i == 5 ? 99 : 1);
        }
        y.hire(5, 9);
        for (int i = 0; i < 11; i++) {
            y.passDays(30);
        }
        Check.due("48 all of it", "n100/50+9$32670@5", () -> Check.output(y, y.writeApplicant(9)));
        Check.due("48 its length", 17, () -> y.writeApplicant(9));
        y.match();
        Check.due("49 all of it", "0 1 2 3 4 9", () -> Check.output(y, y.writePosts()));
        Check.due("49 its length", 11, y::writePosts);
    }

    /** The most days that fit into the calls of one object, and the longest ids. */
    private static void longestLife() {
        CloudInterviews x = new CloudInterviews();
        x.addApplicant('c', 100, 0);
        x.openPost('*', 0, 50, 99);
        x.match();
        for (int i = 0; i < 500; i++) {
            x.passDays(30);
        }
        Check.due("43 most days", 15000, x::day);
        Check.due("11 most coins", 1485000, () -> x.coins(0));
        Check.due("48 most coins", 17, () -> x.writeApplicant(0));
        Check.due("57 still eight", 8, x::undoCount);
        Check.due("56 still one", 7, x::undo);
        Check.due("3 most coins", 99 * 30 * 499, () -> x.removeApplicant(0));
        CloudInterviews y = new CloudInterviews();
        for (int i = 0; i < 460; i++) {
            if (i % 10 == 0) {
                y.rejectRainy(0);
            }
            y.addApplicant('c', 1, 1);
        }
        Check.due("7 the longest ids", "450 459", () -> y.applicant(0) + " " + y.applicant(9));
        Check.illegalState("2 it is full", () -> y.addApplicant('c', 1, 1));
    }
}
