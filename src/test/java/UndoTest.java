import java.util.ArrayList;
import java.util.List;

/** Promises 56 to 59: undo and saved state. */
public final class UndoTest {
    public static void main(String[] args) {
        everyChange();
        refusalsAreNoChanges();
        atMostEight();
        ids();
        saving();
        Check.finish("UndoTest");
    }

    private static void everyChange() {
        CloudInterviews x = new CloudInterviews();
        Check.illegalState("56 none", x::undo);
        Check.due("57 none", 0, x::undoCount);
        List<Runnable> changes = new ArrayList<>();
        changes.add(() -> x.addApplicant('c', 60, 7));
        changes.add(() -> x.addApplicant('s', 70, 9));
        changes.add(() -> x.addApplicant('n', 80, 50));
        changes.add(() -> x.openPost('c', 0, 8, 4));
        changes.add(() -> x.openPost('*', 0, 50, 5));
        changes.add(() -> x.openPost('n', 1, 49, 6));
        changes.add(() -> x.addReference(0, 1));
        changes.add(() -> x.addReference(2, 1));
        changes.add(() -> x.removeReference(0, 1));
        changes.add(() -> x.hire(0, 0));
        changes.add(() -> x.hireBest(1));
        changes.add(() -> x.passDays(2));
        changes.add(() -> x.dismiss(1));
        changes.add(x::match);
        changes.add(() -> x.closePost(1));
        changes.add(() -> x.rejectRainy(40));
        changes.add(() -> Check.execute(x, "apply c5/5;day;match"));
        changes.add(() -> x.removeApplicant(1));
        changes.add(x::match);
        changes.add(() -> x.rejectRainy(50));
        for (int i = 0; i < changes.size(); i++) {
            String earlier = Check.digest(x);
            int undoable = x.undoCount();
            Check.due("57 before change " + i, Math.min(i, 8), x::undoCount);
            changes.get(i).run();
            String later = Check.digest(x);
            Check.due("57 change " + i, Math.min(undoable + 1, 8), x::undoCount);
            int left = Math.min(undoable, 7);
            Check.due("56 change " + i, left, x::undo);
            Check.due("56 what change " + i + " did is undone", earlier, () -> Check.digest(x));
            changes.get(i).run();
            Check.due("56 change " + i + " again", later, () -> Check.digest(x));
        }
    }

    private static void refusalsAreNoChanges() {
        CloudInterviews x = new CloudInterviews();
        x.addApplicant('c', 60, 7);
        x.openPost('s', 0, 8, 4);
        x.openPost('c', 0, 8, 4);
        x.hire(1, 0);
        String board = Check.digest(x);
        List<Check.Call> refused = List.of(() -> x.addApplicant('x', 1, 1), () -> x.removeApplicant(1),
                () -> x.openPost('x', 1, 1, 1), () -> x.closePost(2), () -> x.hire(0, 0), () -> x.hireBest(0),
                () -> x.dismiss(0), () -> x.addReference(0, 0), () -> x.removeReference(0, 0), () -> x.rejectRainy(51),
                () -> x.passDays(0), x::execute, () -> x.hire(9, 0), () -> x.hireBest(1));
        for (Check.Call call : refused) {
            String refusal = Check.outcome(call);
            Check.due("57 it is refused", true, () -> refusal.endsWith("Exception"));
            Check.due("57 no change by a refusal", 4, x::undoCount);
            Check.due("56 nothing is changed by a refusal", board, () -> Check.digest(x));
        }
        x.isConsistent();
        x.writePosts();
        x.feed('d');
        x.save();
        Check.due("57 other calls are no changes", 4, x::undoCount);
    }

    private static void atMostEight() {
        CloudInterviews x = new CloudInterviews();
        for (int i = 0; i < 20; i++) {
            x.passDays(1);
        }
        Check.due("57 at most eight", 8, x::undoCount);
        for (int left = 7; left >= 0; left--) {
            int due = left;
            Check.due("56 left", due, x::undo);
            Check.due("43 days back", 12 + due, x::day);
        }
        Check.illegalState("56 the older ones are lost", x::undo);
        x.passDays(5);
        Check.due("57 a new one", 1, x::undoCount);
        x.passDays(5);
        x.undo();
        x.passDays(6);
        Check.due("57 in place of an undone one", 2, x::undoCount);
        x.undo();
        Check.due("56 the right one is undone", 17, x::day);
    }

    private static void ids() {
        CloudInterviews x = new CloudInterviews();
        x.addApplicant('c', 1, 1);
        x.addApplicant('s', 2, 2);
        x.undo();
        Check.due("56 the id is given again", 1, () -> x.addApplicant('n', 3, 3));
        x.removeApplicant(1);
        x.undo();
        Check.due("56 the one who left is back", 'n', () -> x.shape(1));
        Check.due("56 the next id", 2, () -> x.addApplicant('n', 3, 3));
    }

    private static void saving() {
        CloudInterviews x = new CloudInterviews();
        Check.illegalState("59 nothing was saved", x::restore);
        x.addApplicant('c', 60, 7);
        x.addApplicant('s', 60, 7);
        x.openPost('*', 0, 50, 4);
        x.hire(0, 1);
        x.addReference(0, 1);
        x.passDays(3);
        String board = Check.digest(x);
        Check.due("58", 2, x::save);
        Check.due("58 is no change", 6, x::undoCount);
        x.addApplicant('c', 1, 1);
        x.removeApplicant(1);
        x.closePost(0);
        x.passDays(9);
        Check.due("59", 2, x::restore);
        Check.due("59 all is back", board, () -> Check.digest(x));
        Check.due("57 after restore", 0, x::undoCount);
        Check.illegalState("56 after restore", x::undo);
        Check.due("59 the next id too", 2, () -> x.addApplicant('c', 1, 1));
        x.passDays(1);
        Check.due("59 it stays saved", 2, x::restore);
        Check.due("59 again all is back", board, () -> Check.digest(x));
        x.removeApplicant(0);
        Check.due("58 in place of the former", 1, x::save);
        x.undo();
        Check.due("56 undo leaves what is saved", 1, x::restore);
    }
}
