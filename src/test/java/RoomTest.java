import java.lang.management.ManagementFactory;
import java.util.Random;

/**
 * Plays runs of 512 random calls. No call may throw what its signature does not name (nor what the machine throws),
 * the checks of the theorem must hold all the time, and a run must not make more than there is room for.
 */
final class RoomTest {
  private static final int RUNS = 400, CALLS = 512;
  private static final long MOST_ELEMENTS = 7_300_000;

  private final Lanternserver x = new Lanternserver();
  private final Random random;
  private final boolean isWild;
  private int hosts = 1;

  private RoomTest(int seed) {
    random = new Random(seed);
    isWild = seed % 5 == 0;
  }

  public static void main(String[] args) {
    com.sun.management.ThreadMXBean bean = (com.sun.management.ThreadMXBean) ManagementFactory.getThreadMXBean();
    long thread = Thread.currentThread().getId();
    long most = 0;
    long served = 0;
    for (int seed = 0; seed < RUNS; seed++) {
      RoomTest run = new RoomTest(seed);
      long before = bean.getThreadAllocatedBytes(thread);
      run.run(seed);
      // An element is four bytes of the machine's; the test's own texts count here, too.
      most = Math.max(most, (bean.getThreadAllocatedBytes(thread) - before) / 4);
      served += run.x.count(10);
    }
    System.out.println("requests served: " + served + ", most elements of a run: " + most);
    Check.isTrue("room", most < MOST_ELEMENTS);
    Check.isTrue("requests were served", served > RUNS);
    Check.end();
  }

  private void run(int seed) {
    for (int k = 0; k < CALLS; k++) {
      int which = random.nextInt(isWild ? 40 : 48);
      try {
        call(which);
      } catch (RuntimeException thrown) {
        Class<?> of = thrown.getClass();
        boolean isDue = of == IndexOutOfBoundsException.class || of == IllegalArgumentException.class
            || of == IllegalStateException.class;
        boolean isOwn = thrown.getStackTrace().length > 0
            && thrown.getStackTrace()[0].getClassName().equals("Lanternserver");
        if (!isDue || !isOwn) thrown.printStackTrace();
        Check.isTrue("run " + seed + " call " + k + " of " + which + " throws " + thrown, isDue && isOwn);
      }
    }
    Check.isTrue("run " + seed + " agrees", x.agrees());
    Check.due("run " + seed + " errors", x.errors(), 0);
    Check.due("run " + seed + " frames", x.count(3) - x.count(4) - x.count(2),
        Math.round(x.deliveredShare() * x.count(3)));
  }

  /** A number of the range, or, in wild runs, any. */
  private int from(int least, int most) {
    if (isWild && random.nextInt(8) == 0) {
      int[] odd = {-1, least - 1, most + 1, Integer.MIN_VALUE, Integer.MAX_VALUE, random.nextInt()};
      return odd[random.nextInt(odd.length)];
    }
    return least + random.nextInt(most - least + 1);
  }

  private int connection() {
    return from(0, Math.max(0, x.count(6) - 1));
  }

  private void call(int which) {
    switch (which) {
      case 0: typeText(); break;
      case 1: x.put(from(0, 255), from(1, random.nextInt(4) == 0 ? 300 : 3)); break;
      case 2: x.clear(); break;
      case 3: x.sum(from(0, 10), from(0, 400)); break;
      case 4: if (hosts < 3 || random.nextInt(20) == 0) hosts = Math.max(hosts, x.addHost(from(100, 600), from(40, 500)) + 1); break;
      case 5: x.setMtu(from(0, hosts - 1), from(100, 600)); break;
      case 6: x.hostAt(from(0, hosts - 1), from(0, 5)); break;
      case 7: x.tableAt(from(0, hosts - 1), from(0, hosts - 1)); break;
      case 8: x.deliver(from(0, 1000)); break;
      case 9: x.lose(from(0, 1000)); break;
      case 10: x.twice(from(0, 1000)); break;
      case 11: x.spoil(from(0, 1000), from(0, 1000), from(1, 255)); break;
      case 12: x.frameAt(from(0, Math.max(0, x.count(2) - 1)), from(0, 3)); break;
      case 13: x.byteAt(from(0, Math.max(0, x.count(2) - 1)), from(0, 60)); break;
      case 14: if (random.nextInt(4) == 0) x.pass(from(1, 100)); break;
      case 15: x.settle(from(1, 60)); break;
      case 16: x.play(random.nextInt(), from(1, 200)); break;
      case 17: x.echo(from(0, hosts - 1), from(0, hosts - 1), from(0, 900)); break;
      case 18: x.isAnswered(from(0, 39)); break;
      case 19: typeName(); x.name(from(0, hosts - 1)); break;
      case 20: typeName(); x.lookUp(from(0, hosts - 1)); break;
      case 21: x.askAgain(from(0, 39)); break;
      case 22: x.found(from(0, 39)); break;
      case 23: if (random.nextInt(3) == 0) x.connect(from(1, Math.max(1, hosts - 1)), from(0, 1), from(80, 81)); break;
      case 24: case 25: x.write(connection()); break;
      case 26: case 27: x.read(connection(), from(1, 300)); break;
      case 28: x.readAt(connection(), from(0, 300)); break;
      case 29: if (random.nextInt(4) == 0) x.close(connection(), random.nextInt(4) == 0); break;
      case 30: x.connectionAt(connection(), from(0, 18)); break;
      case 31: x.fileAt(from(0, 3), from(0, 2)); break;
      case 32: x.fileByteAt(from(0, 3), random.nextBoolean(), from(0, 20)); break;
      case 33: x.servedAt(from(0, 5), from(0, 6)); break;
      case 34: x.answerAt(from(0, 5), from(0, 100)); break;
      case 35: x.count(from(0, 15)); break;
      case 36: Check.isTrue("agrees", x.agrees()); break;
      case 37: Check.due("errors", x.errors(), 0); break;
      case 38: x.deliveredShare(); break;
      case 39: x.meanAnswer(); break;
      case 40: connectToServer(); break;
      case 41: case 42: case 43: request(); break;
      case 44: case 45: x.settle(20); break;
      default: for (int k = 0; k < x.count(6); k++) readIfClients(k);
    }
  }

  private void connectToServer() {
    if (hosts < 2) hosts = x.addHost(300, 200) + 1;
    if (x.count(7) < 8) x.connect(1 + random.nextInt(hosts - 1), 0, 80);
  }

  private void request() {
    if (x.count(6) == 0) return;
    int client = random.nextInt(x.count(6));
    if (x.connectionAt(client, 3) == 80 || x.connectionAt(client, 0) != Lanternserver.ESTABLISHED) return;
    x.clear();
    if (random.nextInt(2) == 0) x.piece(random.nextInt(6));
    else typeText();
    x.write(client);
  }

  private void readIfClients(int connection) {
    if (x.connectionAt(connection, 3) != 80) x.read(connection, 300);
  }

  private void typeText() {
    String[] methods = {"GET", "HEAD", "PUT", "POST", "DELETE", "OPTIONS", "GETS"};
    String[] targets = {"/", "/a", "/b", "/c.d", "/A", "*", "a", "/e", "/f", "/g", "/h", "/i", "/j"};
    String[] lines = {"Host: h", "host:x", "Content-Length: 7", "Content-Length: 301", "Transfer-Encoding: chunked",
        "Connection: close", "connection: Keep-Alive", "If-Match: *", "If-Match: \"v1\"", "If-None-Match: \"v3\"",
        "Range: bytes=2-4", "Range: bytes=-3", "Range: bytes=4-", "Range: bytes=5-3", "X", "X:"};
    StringBuilder text = new StringBuilder(pick(methods) + " " + pick(targets) + " HTTP/1."
        + (random.nextInt(20) == 0 ? 2 : random.nextInt(2)) + "\r\nHost: h\r\n");
    int many = random.nextInt(4);
    for (int k = 0; k < many; k++) text.append(pick(lines)).append("\r\n");
    text.append("\r\n");
    String[] bodies = {"", "abcdefg", "3\r\nabc\r\n4\r\ndefg\r\n0\r\n\r\n", "12d\r\n"};
    text.append(pick(bodies));
    type(text.toString());
  }

  private void typeName() {
    x.clear();
    String[] names = {"a", "b.c", "a.b.c.d.e", "a.b.c.d.e.f", "a..b", "A", "aaaaaaaaaaaaaaaaaaaa.b", "-"};
    type(pick(names));
  }

  private String pick(String[] of) {
    return of[random.nextInt(of.length)];
  }

  private void type(String text) {
    for (int k = 0; k < text.length() && x.count(15) < 400; k++) x.put(text.charAt(k), 1);
  }
}
