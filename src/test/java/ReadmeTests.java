/** The calls that README.md shows, with what it says of them. */
public final class ReadmeTests {
    public static void main(String[] args) {
        FewPlaces x = new FewPlaces();
        x.begin(0, 1, 9);
        x.place(0, 0, 16);
        x.orbit(1, 0, 4);
        x.orbit(1, 1, 1);
        boolean right = x.degree() == 3 && x.first(0) == 4 && x.error(4, 0, 0) == 8 && x.error(4, 0, 1) == 15;
        x.term(3, 6);
        right = right && x.whole(0) == 8 && x.byRule(2, 0) == 8 && x.pair(2, 3) == 5;
        System.out.println(right ? "the README is right" : "the README is wrong");
        if (!right) {
            System.exit(1);
        }
    }
}
