/**
 * Runs of up to 512 calls whose answers are compared with those of the naive board, always the same runs. Every second
 * run keeps its last calls for a look at the whole board.
 */
public final class ModelTest {
    private static final int RUNS = 700;
    /** So many calls at most does one step of a run make. */
    private static final int STEP_CALLS = 5;

    private static long seed = 1;

    private static int below(int bound) {
        seed = seed * 6364136223846793005L + 1442695040888963407L;
        return (int) ((seed >>> 33) % bound);
    }

    private static char pick(String signs) {
        return signs.charAt(below(signs.length()));
    }

    public static void main(String[] args) {
        for (int run = 0; run < RUNS; run++) {
            new Run(run).go();
        }
        Check.finish("ModelTest");
    }

    private static final class Run {
        private final int number;
        private final boolean wild;
        private final CloudInterviews x = new CloudInterviews();
        private final NaiveBoard y = new NaiveBoard();
        private String waitingText = "";
        private int calls = 0;

        Run(int number) {
            this.number = number;
            wild = number % 4 == 0;
        }

        void go() {
            boolean looks = number % 2 == 1;
            int most = Check.MOST_CALLS - STEP_CALLS - (looks ? Check.DIGEST_CALLS : 0);
            for (int i = 0; calls <= most; i++) {
                if (waitingText.isEmpty()) {
                    call("run " + number + " step " + i + " ", below(below(3) == 0 ? 57 : 22));
                } else {
                    feedNext("run " + number + " step " + i + " ");
                }
            }
            if (looks) {
                Check.due("run " + number + " ends with", digest(), () -> Check.digest(x));
            }
        }

        private void feedNext(String where) {
            char sign = waitingText.charAt(0);
            waitingText = waitingText.substring(1);
            same(where + "feed " + sign, () -> x.feed(sign), () -> y.feed(sign));
            if (waitingText.isEmpty()) {
                same(where + "execute", x::execute, y::execute);
            }
        }

        private void same(String what, Check.Call call, Check.Call naive) {
            calls++;
            Check.due(what, Check.outcome(naive), call);
        }

        private void several(String what, Check.Call call, Check.Call naive) {
            calls += STEP_CALLS - 1;
            same(what, call, naive);
        }

        private int id() {
            int odd = below(20);
            if (odd == 0) {
                return below(40) - 2;
            }
            return y.applicantCount() == 0 ? below(3) : y.applicant(below(y.applicantCount()));
        }

        private int post() {
            return below(12) == 0 ? below(9) - 1 : below(Math.max(1, y.postCount()));
        }

        private int number(int least, int most) {
            return below(25) == 0 ? below(2) * (most - least + 2) + least - 1 : least + below(most - least + 1);
        }

        private String text() {
            StringBuilder text = new StringBuilder();
            int commands = 1 + below(4);
            for (int i = 0; i < commands; i++) {
                text.append(i == 0 ? "" : ";").append(command());
            }
            if (below(wild ? 2 : 5) == 0) {
                spoil(text);
            }
            text.setLength(Math.min(text.length(), 62));
            return text.toString();
        }

        private void spoil(StringBuilder text) {
            int at = below(text.length());
            switch (below(4)) {
                case 0 -> text.setLength(at);
                case 1 -> text.setCharAt(at, pick("abcdefhilmnprstwy0123456789;/=<>* "));
                case 2 -> text.insert(at, pick("0123456789;/=<>* acdehilmnoprsty"));
                default -> text.deleteCharAt(at);
            }
        }

        private String command() {
            return switch (below(11)) {
                case 0, 1 -> "apply " + pick("csn") + number(0, 100) + "/" + number(0, 50);
                case 2 -> "leave " + Math.abs(id());
                case 3 -> "post " + pick("csn*") + below(70) + "/" + number(0, 50) + "=" + number(1, 99);
                case 4 -> "close " + Math.abs(post());
                case 5, 6 -> "hire " + Math.abs(post()) + "<" + Math.abs(id());
                case 7 -> "dismiss " + Math.abs(post());
                case 8 -> "refer " + Math.abs(id()) + ">" + Math.abs(id());
                case 9 -> "match";
                default -> "day";
            };
        }

        private void call(String where, int kind) {
            if (kind < 22) {
                change(where, kind);
            } else if (kind < 40) {
                askOne(where, kind);
            } else {
                askAll(where, kind);
            }
        }

        private void change(String where, int kind) {
            int a = id();
            int b = id();
            int p = post();
            int white = number(0, 100);
            int wet = number(0, 50);
            int pay = below(3) == 0 ? number(1, 99) : 1 + below(3);
            int low = below(2) == 0 ? 0 : number(0, 100);
            int days = number(1, below(3) == 0 ? 30 : 3);
            boolean saves = below(3) > 0;
            char shape = below(30) == 0 ? 'x' : pick("csn");
            char required = below(30) == 0 ? 'x' : pick("csn***");
            switch (kind) {
                case 0, 1, 2, 3 -> same(where + "addApplicant", () -> x.addApplicant(shape, white, wet),
                        () -> y.addApplicant(shape, white, wet));
                case 4 -> same(where + "removeApplicant", () -> x.removeApplicant(a), () -> y.removeApplicant(a));
                case 5 -> same(where + "rejectRainy", () -> x.rejectRainy(wet), () -> y.rejectRainy(wet));
                case 6, 7, 8 -> same(where + "addReference", () -> x.addReference(a, b), () -> y.addReference(a, b));
                case 9 -> same(where + "removeReference", () -> x.removeReference(a, b), () -> y.removeReference(a, b));
                case 10, 11 -> same(where + "openPost", () -> x.openPost(required, low, wet, pay),
                        () -> y.openPost(required, low, wet, pay));
                case 12 -> same(where + "closePost", () -> x.closePost(p), () -> y.closePost(p));
                case 13, 14 -> same(where + "hire", () -> x.hire(p, a), () -> y.hire(p, a));
                case 15 -> same(where + "hireBest", () -> x.hireBest(p), () -> y.hireBest(p));
                case 16 -> same(where + "dismiss", () -> x.dismiss(p), () -> y.dismiss(p));
                case 17 -> same(where + "match", x::match, y::match);
                case 18 -> same(where + "passDays", () -> x.passDays(days), () -> y.passDays(days));
                case 19 -> waitingText = text();
                case 20 -> same(where + "undo", x::undo, y::undo);
                default -> same(where + "save or restore", saves ? x::save : x::restore, saves ? y::save : y::restore);
            }
        }

        private void askOne(String where, int kind) {
            int a = id();
            int b = id();
            int p = post();
            int n = below(14) - 1;
            switch (kind) {
                case 22 -> same(where + "applicant", () -> x.applicant(n), () -> y.applicant(n));
                case 23 -> same(where + "applicantByScore", () -> x.applicantByScore(n), () -> y.applicantByScore(n));
                case 24 -> same(where + "postOf", () -> x.postOf(a), () -> y.postOf(a));
                case 25 -> same(where + "score", () -> x.score(a), () -> y.score(a));
                case 26 -> same(where + "hasReference", () -> x.hasReference(a, b), () -> y.hasReference(a, b));
                case 27 -> same(where + "referencesFor", () -> x.referencesFor(a), () -> y.referencesFor(a));
                case 28 -> same(where + "referencesFrom", () -> x.referencesFrom(a), () -> y.referencesFrom(a));
                case 29 -> same(where + "filledBy", () -> x.filledBy(p), () -> y.filledBy(p));
                case 30 -> same(where + "suits", () -> x.suits(a, p), () -> y.suits(a, p));
                case 31 -> same(where + "favouritePost", () -> x.favouritePost(a), () -> y.favouritePost(a));
                case 32 -> same(where + "bestCandidate", () -> x.bestCandidate(p), () -> y.bestCandidate(p));
                case 33 -> same(where + "candidateCount", () -> x.candidateCount(p), () -> y.candidateCount(p));
                case 34 -> same(where + "daysUntilDismissal", () -> x.daysUntilDismissal(a),
                        () -> y.daysUntilDismissal(a));
                case 35, 36 -> same(where + "writeApplicant", () -> x.writeApplicant(a), () -> y.writeApplicant(a));
                case 37 -> same(where + "writePosts", x::writePosts, y::writePosts);
                case 38 -> same(where + "outputCharacter", () -> x.outputCharacter(n), () -> y.outputCharacter(n));
                default -> several(where + "properties",
                        () -> x.shape(a) + " " + x.whiteness(a) + " " + x.rain(a) + " " + x.coins(a) + x.isHired(a),
                        () -> y.shape(a) + " " + y.whiteness(a) + " " + y.rain(a) + " " + y.coins(a) + y.isHired(a));
            }
        }

        private void askAll(String where, int kind) {
            int p = post();
            switch (kind) {
                case 40, 41 -> same(where + "mostHires", x::mostHires, () -> y.mostHires(0));
                case 42, 43 -> same(where + "mostHiresBySets", x::mostHiresBySets, () -> y.mostHires(0));
                case 44, 45 -> same(where + "blockingPairs", x::blockingPairs, y::blockingPairs);
                case 46, 47 -> same(where + "blockingPairsByPreference", x::blockingPairsByPreference, y::blockingPairs);
                case 48 -> same(where + "dailyWages", x::dailyWages, y::dailyWages);
                case 49 -> same(where + "meanScore", x::meanScore, y::meanScore);
                case 50 -> same(where + "filledFraction", x::filledFraction, y::filledFraction);
                case 51 -> same(where + "isConsistent", x::isConsistent, () -> true);
                case 52 -> same(where + "errorPosition", x::errorPosition, y::errorPosition);
                case 53 -> same(where + "failedCommand", x::failedCommand, y::failedCommand);
                case 54 -> same(where + "undoCount", x::undoCount, y::undoCount);
                case 55 -> several(where + "counts",
                        () -> x.applicantCount() + " " + x.waitingCount() + " " + x.postCount() + " " + x.vacantCount(),
                        () -> y.applicantCount() + " " + y.waitingCount() + " " + y.postCount() + " " + y.vacantCount());
                default -> several(where + "the post",
                        () -> x.requiredShape(p) + " " + x.lowestWhiteness(p) + " " + x.highestRain(p) + " " + x.wage(p),
                        () -> y.requiredShape(p) + " " + y.lowestWhiteness(p) + " " + y.highestRain(p) + " " + y.wage(p));
            }
        }

        /** As Check.digest, of the naive board. */
        private String digest() {
            StringBuilder all = new StringBuilder();
            for (NaiveBoard.Cloud cloud : y.now.clouds) {
                all.append(cloud.id).append(cloud.shape).append(cloud.whiteness).append('/').append(cloud.rain)
                        .append('$').append(cloud.coins).append('@').append(Check.outcome(() -> y.postOf(cloud.id)))
                        .append('<');
                cloud.references.forEach(giver -> all.append(giver).append(','));
                all.append(' ');
            }
            all.append('|');
            for (int post = 0; post < y.postCount(); post++) {
                int p = post;
                all.append(y.requiredShape(p)).append(y.lowestWhiteness(p)).append('/').append(y.highestRain(p))
                        .append('=').append(y.wage(p)).append('<').append(Check.outcome(() -> y.filledBy(p))).append(' ');
            }
            return all.append('|').append(y.day()).toString();
        }
    }
}
