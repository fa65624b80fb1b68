/** Promise 1: a new object. */
public final class NewObjectTest {
    public static void main(String[] args) {
        Loomkeeper x = new Loomkeeper();
        if (x.now() != 0 || x.workflows() != 0 || x.tasks() != 0) {
            System.out.println("a new object is not empty");
            System.exit(1);
        }
    }
}
