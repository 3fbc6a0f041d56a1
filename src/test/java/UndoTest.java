import java.util.ArrayList;
import java.util.List;

/** Promises 56 to 59: undo and saved state. */
public final class UndoTest {
    /** Every call that is a change, also where it changes nothing but the history. */
    private static final List<Twins.Act> CHANGES = List.<Twins.Act>of(
            x -> x.addApplicant('c', 60, 7),
            x -> x.addApplicant('s', 70, 9),
            x -> x.addApplicant('n', 80, 50),
            x -> x.openPost('c', 0, 8, 4),
            x -> x.openPost('*', 0, 50, 5),
            x -> x.openPost('n', 1, 49, 6),
            x -> x.addReference(0, 1),
            x -> x.addReference(2, 1),
            x -> x.removeReference(0, 1),
            x -> x.hire(0, 0),
            x -> x.hireBest(1),
            x -> x.passDays(2),
            x -> x.dismiss(1),
            x -> x.match(),
            x -> x.closePost(1),
            x -> x.rejectRainy(40),
            x -> Check.execute(x, "apply c5/5;day;match"),
            x -> x.removeApplicant(1),
            x -> x.match(),
            x -> x.rejectRainy(50));

    public static void main(String[] args) {
        none();
        everyChange();
        stepByStep();
        atMostEight();
        ids();
        saving();
        Check.finish("UndoTest");
    }

    private static void none() {
        CloudInterviews x = new CloudInterviews();
        Check.due("57 none", 0, x::undoCount);
        Check.illegalState("56 none", x::undo);
        x.match();
        Check.due("57 one that changes nothing", 1, x::undoCount);
        Check.due("56 the only one", 0, x::undo);
        Check.illegalState("56 it was the only one", x::undo);
        x.rejectRainy(0);
        Check.due("57 another that changes nothing", 1, x::undoCount);
    }

    private static void everyChange() {
        for (int i = 0; i < CHANGES.size(); i++) {
            int changes = i;
            CloudInterviews x = after(changes);
            String earlier = Check.digest(x);
            Check.due("57 before change " + i, Math.min(i, 8), x::undoCount);
            CHANGES.get(i).on(x);
            String later = Check.digest(x);
            Check.due("57 change " + i + " is one change", Math.min(i + 1, 8), x::undoCount);
            Check.due("56 change " + i, Math.min(i, 7), x::undo);
            Check.due("57 change " + i + " undone", Math.min(i, 7), x::undoCount);
            Check.due("56 what change " + i + " did is undone", earlier, () -> Check.digest(x));
            Check.due("56 change " + i + " again", later, () -> {
                CHANGES.get(changes).on(x);
                return Check.digest(x);
            });
        }
    }

    /** All of the board at each step back, down to the first of the eight. */
    private static void stepByStep() {
        List<String> boards = new ArrayList<>();
        for (int changes = 0; changes <= CHANGES.size(); changes++) {
            boards.add(Check.digest(after(changes)));
            int most = Math.min(changes, 8);
            for (int undos = 1; undos <= most; undos++) {
                CloudInterviews x = after(changes);
                for (int i = 1; i <= undos; i++) {
                    Check.due("56 left after " + i + " of " + changes, most - i, x::undo);
                }
                Check.due("57 after " + undos + " of " + changes, most - undos, x::undoCount);
                Check.due("56 " + undos + " of " + changes, boards.get(changes - undos), () -> Check.digest(x));
                if (undos == most) {
                    Check.illegalState("56 one more of " + changes, x::undo);
                }
            }
        }
    }

    private static CloudInterviews after(int changes) {
        CloudInterviews x = new CloudInterviews();
        for (int i = 0; i < changes; i++) {
            CHANGES.get(i).on(x);
        }
        return x;
    }

    private static void atMostEight() {
        CloudInterviews x = new CloudInterviews();
        for (int i = 1; i <= 8; i++) {
            int count = i;
            Check.due("57 up to eight", count, () -> {
                x.addApplicant('c', count, 0);
                return x.undoCount();
            });
        }
        Check.due("57 the ninth takes the place of the first", 8, () -> {
            x.openPost('*', 0, 50, 1);
            return x.undoCount();
        });
        for (int left = 7; left >= 0; left--) {
            Check.due("56 eight of nine", left, x::undo);
        }
        Check.illegalState("56 not the first of nine", x::undo);
        Check.due("56 what the first of nine did stays", 1, x::applicantCount);
        Check.due("56 the next id is as it was then", 1, () -> x.addApplicant('s', 1, 1));
        manyMore();
        undoneOnesDoNotComeBack();
    }

    /** A ninth change loses the first one, also if the ninth is undone itself. */
    private static void undoneOnesDoNotComeBack() {
        CloudInterviews x = new CloudInterviews();
        for (int i = 0; i < 9; i++) {
            x.passDays(1);
        }
        Check.due("56 the ninth", 7, x::undo);
        x.match();
        Check.due("57 one in its place", 8, x::undoCount);
        for (int left = 7; left >= 0; left--) {
            Check.due("56 down to the second", left, x::undo);
        }
        Check.due("43 the first day stays", 1, x::day);
    }

    private static void manyMore() {
        CloudInterviews x = new CloudInterviews();
        for (int i = 0; i < 20; i++) {
            x.passDays(1);
        }
        Check.due("57 at most eight", 8, x::undoCount);
        for (int left = 7; left >= 0; left--) {
            int due = left;
            Check.due("56 left", due, x::undo);
            Check.due("43 days back", 12 + due, x::day);
        }
        Check.illegalState("56 the older ones are lost", x::undo);
        x.passDays(5);
        Check.due("57 a new one", 1, x::undoCount);
        x.passDays(5);
        x.undo();
        x.passDays(6);
        Check.due("57 in place of an undone one", 2, x::undoCount);
        x.undo();
        Check.due("56 the right one is undone", 17, x::day);
    }

    private static void ids() {
        CloudInterviews x = new CloudInterviews();
        x.addApplicant('c', 1, 1);
        x.addApplicant('s', 2, 2);
        x.undo();
        Check.due("56 the id is given again", 1, () -> x.addApplicant('n', 3, 3));
        x.removeApplicant(1);
        x.undo();
        Check.due("56 the one who left is back", 'n', () -> x.shape(1));
        Check.due("56 the next id", 2, () -> x.addApplicant('n', 3, 3));
        Check.execute(x, "leave 2;apply c4/4;apply c5/5");
        Check.due("2 ids go on after a text", 5, () -> x.addApplicant('n', 6, 6));
        x.undo();
        x.undo();
        Check.due("56 the id after a text is undone", 3, () -> x.addApplicant('n', 7, 7));
        x.rejectRainy(0);
        Check.due("2 ids go on when all were rejected", 4, () -> x.addApplicant('n', 8, 8));
        x.undo();
        x.undo();
        Check.due("56 the rejected are back", "0 1 2 3", () -> x.applicant(0) + " " + x.applicant(1) + " "
                + x.applicant(2) + " " + x.applicant(3));
        Check.due("56 the id after all", 4, () -> x.addApplicant('n', 9, 9));
    }

    private static void saving() {
        CloudInterviews x = new CloudInterviews();
        Check.illegalState("59 nothing was saved", x::restore);
        x.addApplicant('c', 60, 7);
        x.addApplicant('s', 60, 7);
        x.openPost('*', 0, 50, 4);
        x.hire(0, 1);
        x.addReference(0, 1);
        x.passDays(3);
        String board = Check.digest(x);
        Check.due("58", 2, x::save);
        Check.due("58 is no change", 6, x::undoCount);
        x.addApplicant('c', 1, 1);
        x.removeApplicant(1);
        x.closePost(0);
        x.passDays(9);
        Check.due("59", 2, x::restore);
        Check.due("59 all is back", board, () -> Check.digest(x));
        Check.due("57 after restore", 0, x::undoCount);
        Check.illegalState("56 after restore", x::undo);
        Check.due("59 the next id too", 2, () -> x.addApplicant('c', 1, 1));
        x.passDays(1);
        Check.due("59 it stays saved", 2, x::restore);
        Check.due("59 again all is back", board, () -> Check.digest(x));
        x.removeApplicant(0);
        Check.due("58 in place of the former", 1, x::save);
        x.undo();
        Check.due("56 undo leaves what is saved", 1, x::restore);
        emptyAndFull();
    }

    private static void emptyAndFull() {
        CloudInterviews x = new CloudInterviews();
        Check.due("58 an empty board", 0, x::save);
        for (int i = 0; i < 10; i++) {
            x.addApplicant('c', i, i);
        }
        Check.due("59 an empty board", 0, x::restore);
        Check.due("59 nobody is there", 0, x::applicantCount);
        for (int i = 0; i < 10; i++) {
            int id = i;
            Check.due("59 ids begin again", id, () -> x.addApplicant('c', id, id));
        }
        for (int i = 0; i < 6; i++) {
            x.openPost('*', 0, 50, 1);
        }
        Check.due("58 a full board", 10, x::save);
        for (int i = 0; i < 10; i++) {
            x.removeApplicant(i);
        }
        Check.due("59 a full board", 10, x::restore);
        Check.due("59 all posts are there", 6, x::postCount);
        Check.illegalState("59 the board is full again", () -> x.addApplicant('c', 1, 1));
        Check.due("59 once more", 10, x::restore);
        Check.illegalState("56 no change since", x::undo);
    }
}
