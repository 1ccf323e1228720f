import java.util.ArrayList;
import java.util.List;

/** All that can be seen of an object, but for how many calls were refused. */
final class Look {
    private Look() {
    }

    /** All but the tape and the place of the fault. */
    static List<Integer> at(HoopHours x) {
        List<Integer> all = new ArrayList<>();
        for (int what = 0; what <= 12; what++) {
            all.add(x.told(what));
        }
        for (int walk = 0; walk < x.told(0); walk++) {
            all.add(x.walk(walk, 0));
            all.add(x.walk(walk, 1));
        }
        for (int child = 0; child < x.told(1); child++) {
            for (int what = 0; what <= 5; what++) {
                all.add(x.child(child, what));
            }
        }
        for (int hoop = 0; hoop < x.told(2); hoop++) {
            for (int what = 0; what <= 2; what++) {
                all.add(x.hoop(hoop, what));
            }
        }
        all.add(x.count(0));
        all.add(x.count(2));
        all.add(x.would(7, 2, 9, 4, 3, 1, 5));
        all.add(x.would(13, 5, 11, 6, 8, 0, 2));
        all.add(x.fits(0));
        return all;
    }

    static List<Integer> atAll(HoopHours x) {
        List<Integer> all = at(x);
        all.add(x.count(1));
        all.add(x.fault());
        return all;
    }

    /** All that work changes: neither park, law and songs, nor the steps refused, nor what is kept. */
    static List<Integer> atWork(HoopHours x) {
        List<Integer> all = new ArrayList<>();
        for (int what : new int[] {3, 4, 5, 6, 7, 8, 9, 12}) {
            all.add(x.told(what));
        }
        for (int child = 0; child < x.told(1); child++) {
            for (int what = 2; what <= 5; what++) {
                all.add(x.child(child, what));
            }
        }
        for (int hoop = 0; hoop < x.told(2); hoop++) {
            all.add(x.hoop(hoop, 1));
            all.add(x.hoop(hoop, 2));
        }
        return all;
    }
}
