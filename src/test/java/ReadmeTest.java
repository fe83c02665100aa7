/** The example of README.md answers as is told there. */
final class ReadmeTest {
    public static void main(String[] args) {
        ColdFeet feet = new ColdFeet();
        Check.same("text", Check.tell(feet,
            "man ann 30 20 3; man bob 40 20 5; thing cat 9 1 9; thing clock 40 4 30; heat 0; law after depth;"), 6);
        Check.same("premium(0)", feet.premium(0), 10);
        Check.same("cover(2)", feet.cover(2), 30);
        Check.same("match(6)", feet.match(6), 49);
        Check.same("pay(0, 10)", feet.pay(0, 10), 89);
        Check.same("out(0)", feet.out(0), 2);
        Check.same("go(5)", feet.go(5), 5);
        Check.same("count(4)", feet.count(4), 1);
        Check.same("man(0, 1)", feet.man(0, 1), 21);
        Check.end();
    }
}
