/** The example of README.md: a halo of unknown mass, two orbits, what was seen of them, and a stream. */
public final class Example {
  public static void main(String[] args) {
    SwarmHouse house = new SwarmHouse();

    // A FIELD is told as a text: its bytes come onto the TAPE, then field() reads them.
    say("field", tell(house, "halo x 5;"));           // NONE: a FAULT ..
    say("its kind", house.fault(0));                  // .. a TOKEN that can't stand there ..
    say("its place", house.fault(1));                 // .. at byte 5
    say("field", tell(house, "halo 0..900 5; use sort < 3;"));
    say("pull", house.pull(10, 0, 0, 0));             // by THE MASS 0
    say("mass", house.mass(900));
    say("pull", house.pull(10, 0, 0, 0));             // by THE MASS 900
    say("mass", house.mass(901));                     // not in the SPAN 0 .. 900

    // A star does STEPS, and takes them back exactly.
    say("star", house.star(10, 0, 0, 3, 0));
    say("go", house.go(5));
    say("go", house.go(-5));
    say("its x", house.starred(0));

    // ORBITS, and what is said of them.
    say("length", house.length(10));
    say("orbit", house.orbit(100, 0, 0, 50));
    say("orbit", house.orbit(-100, -20, 0, 10));
    say("orbit", house.orbit(10000, 0, 0, 0));        // NONE: it would start too far out
    say("its sort", house.told(0, 4));                // a RING
    say("of none such", house.told(2, 4));            // Long.MIN_VALUE
    say("share", house.share(0, 10, 0));              // how many places in CELL 10

    // SIGHTS, and the WEIGHTS by which they hold.
    say("portions", house.portions(2));
    say("fits", house.fits(0));
    say("sight", house.sight(0, 10, 400, 500));       // LIGHT of CELL 10: 400 to 500 in a thousand
    say("fits", house.fits(1));
    say("weight", house.weight(1, 0, 0));
    say("sight", house.sight(0, 9, 900, 1000));
    say("fits", house.fits(2));
    say("quarrel", house.quarrel(2));                 // bits: SIGHT 1 alone holds by no WEIGHTS
    say("strike", house.strike(1));
    say("fits", house.fits(3));

    // Masses of the halo that still fit, and a STREAM.
    say("models", house.models(300, 0));
    say("kept", house.models(300, 1));                // bits: of 0, 300, 600, 900 the first and the last
    say("stream", house.stream(0, 200, 0, 0, 100, 0, 0, 0, 16, 30));
    say("bent", house.bent(300, house.trail()));      // THE MASS is 900
  }

  /** Twenty bytes a call, four in each number, the highest first; blanks behind the text. */
  private static int tell(SwarmHouse house, String text) {
    for (int at = 0; at < text.length(); at += 20) {
      int[] four = new int[5];
      for (int i = 0; i < 20; i++) {
        char sign = at + i < text.length() ? text.charAt(at + i) : ' ';
        four[i / 4] = four[i / 4] << 8 | sign;
      }
      house.feed(four[0], four[1], four[2], four[3], four[4]);
    }
    return house.field(text.length());
  }

  private static void say(String what, Object answer) {
    System.out.println(what + ": " + answer);
  }
}
