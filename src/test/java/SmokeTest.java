/** The least that stands: a park is read and a hoop rolls. */
public final class SmokeTest {
    public static void main(String[] args) {
        Check check = new Check();
        HoopHours x = Check.with("walk 2 4;child 3 7;hoop 2;", "", "give 0 0;roll;");
        check.is("told(6)", 1, x.told(6));
        check.is("hoop(0, 2)", 6, x.hoop(0, 2));
        check.end();
    }
}
