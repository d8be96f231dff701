import java.util.ArrayList;
import java.util.Arrays;

/**
 * A server of pages with its own stack, and hosts that talk to it over one wire.
 *
 * <p>Whatever is to be sent is laid out on the wire's pile of outgoing datagrams first, and posted when the call
 * (or the tick, or the frame) has been dealt with: the order is the same, and calls stay shallow.
 */
public final class Lanternserver {
  public static final int NONE = -1;
  public static final int CLOSED = 0, SYN_SENT = 1, SYN_RECEIVED = 2, ESTABLISHED = 3, FIN_WAIT_1 = 4,
      FIN_WAIT_2 = 5, CLOSING = 6, CLOSE_WAIT = 7, TIME_WAIT = 8, LAST_ACK = 9;
  public static final int REFUSED = 1, RESET = 2, GIVEN_UP = 3, ABORTED = 4;

  private static final int MOST_ON_TAPE = 400, MOST_HOSTS = 5, MOST_FRAMES = 100, MOST_ECHOES = 40,
      MOST_LOOKUPS = 40, MOST_CONNECTIONS = 60, MOST_OPEN = 6, MOST_TIME = 20000, MOST_SETTLED = 500,
      MOST_LAID_OUT = 100;
  private static final int MOST_WAITING = 4, MOST_KEPT = 4, MOST_PIECES = 6, MOST_WRITTEN = 600, MOST_UNREAD = 300,
      MOST_CWND = 2000, FIRST_THRESHOLD = 2000, MOST_FILES = 8, MOST_SIZE = 300;
  private static final int TABLE_TICKS = 200, KEPT_TICKS = 60, ASK_TICKS = 5, WAIT_TICKS = 40, PATIENCE = 400,
      MOST_TIMES = 9, MOST_RTO = 80, LEAST_RTO = 4, LOW_WINDOW = 60;

  private static final int FIRST_ADDRESS = 0x0a000001;
  private static final long FIRST_HARDWARE = 0x020000000001L, ALL_HARDWARE = 0xffffffffffffL;
  private static final int ASKING = 0x0806, DATAGRAM = 0x0800;
  private static final int TAKEN_NOTHING = 0, TAKEN_MESSAGE = 1, TAKEN_DATAGRAM = 2;
  private static final int ECHOES = 1, CONNECTIONS = 6, NAMES = 17;
  private static final int NAME_PORT = 53, FIRST_ASKING_PORT = 5000, PAGE_PORT = 80, FIRST_CLIENT_PORT = 40000;
  private static final int FOUND_NONE = -2, ECHO_NUMBER = 7;
  private static final int FIN = 1, SYN = 2, RST = 4, PSH = 8, ACK = 16;
  private static final int RETURN = 13, FEED = 10, BLANK = 32, LINE_END = 0x0d0a;

  private static final int GET = 1, HEAD = 2, PUT = 3, POST = 4, DELETE = 5, OPTIONS = 6;
  private static final int WHOLE = 1;
  private static final int SERVED_NUMBERS = 8, SERVED_BEGIN = 7;

  private final Row tape = new Row(MOST_ON_TAPE);
  private final Wire wire = new Wire();
  private final ArrayList<Host> hosts = new ArrayList<>();
  private final ArrayList<Connection> connections = new ArrayList<>();
  private final ArrayList<Datagram> echoes = new ArrayList<>();
  private final boolean[] isEchoAnswered = new boolean[MOST_ECHOES];
  private final ArrayList<Datagram> lookups = new ArrayList<>();
  private final int[] foundHosts = new int[MOST_LOOKUPS];
  private final Row nameAsked = new Row(120);
  private final Datagram arrived = new Datagram();
  private final Segment segment = new Segment();
  private final House house = new House();
  private final Row served = new Row(SERVED_NUMBERS * 8);
  private final House naiveHouse = new House();
  private final Reader naiveReader = new Reader();
  private final Row naiveAnswer = new Row(64);
  private final int[] naivePlaces = new int[MOST_CONNECTIONS];

  public Lanternserver() {
    hosts.add(new Host(0, 600, 500));
  }

  // ---- the tape

  public int type(long a, long b, long c, long d, long e, long f) throws IllegalStateException {
    int more = bytesIn(a) + bytesIn(b) + bytesIn(c) + bytesIn(d) + bytesIn(e) + bytesIn(f);
    if (tape.length() + more > MOST_ON_TAPE) throw new IllegalStateException("the tape has at most 400 bytes");
    typeNumber(a);
    typeNumber(b);
    typeNumber(c);
    typeNumber(d);
    typeNumber(e);
    typeNumber(f);
    return tape.length();
  }

  public int put(int value, int many) throws IllegalArgumentException, IllegalStateException {
    if (value < 0 || value > 255 || many < 1 || many > 300) {
      throw new IllegalArgumentException("a byte is 0 to 255, many 1 to 300");
    }
    if (tape.length() + many > MOST_ON_TAPE) throw new IllegalStateException("the tape has at most 400 bytes");
    for (int k = 0; k < many; k++) tape.add(value);
    return tape.length();
  }

  public int piece(int which) throws IllegalArgumentException, IllegalStateException {
    if (which < 0 || which > 5) throw new IllegalArgumentException("a piece is 0 to 5");
    String text = pieceText(which);
    if (tape.length() + text.length() > MOST_ON_TAPE) {
      throw new IllegalStateException("the tape has at most 400 bytes");
    }
    tape.addText(text);
    return tape.length();
  }

  public int clear() {
    int before = tape.length();
    tape.empty();
    return before;
  }

  public int sum(int from, int behind) throws IndexOutOfBoundsException {
    if (from < 0 || behind < from || behind > tape.length()) {
      throw new IndexOutOfBoundsException("no such part of the tape");
    }
    return tape.sumOver(from, behind, 0);
  }

  // ---- hosts and the wire

  public int addHost(int mtu, int mss) throws IllegalArgumentException, IllegalStateException {
    if (mtu < 100 || mtu > 600 || mss < 40 || mss > 500) {
      throw new IllegalArgumentException("an MTU is 100 to 600, an MSS 40 to 500");
    }
    if (hosts.size() >= MOST_HOSTS) throw new IllegalStateException("there are 5 hosts");
    hosts.add(new Host(hosts.size(), mtu, mss));
    return hosts.size() - 1;
  }

  public int setMtu(int host, int mtu) throws IndexOutOfBoundsException, IllegalArgumentException {
    if (!hasHost(host)) throw new IndexOutOfBoundsException("no such host");
    if (mtu < 100 || mtu > 600) throw new IllegalArgumentException("an MTU is 100 to 600");
    Host changed = hosts.get(host);
    int before = changed.mtu;
    changed.mtu = mtu;
    return before;
  }

  public int hostAt(int host, int what) throws IndexOutOfBoundsException, IllegalArgumentException {
    if (!hasHost(host)) throw new IndexOutOfBoundsException("no such host");
    Host asked = hosts.get(host);
    switch (what) {
      case 0: return asked.known;
      case 1: return asked.waitingMany;
      case 2: return asked.counted;
      case 3: return asked.keptMany;
      case 4: return asked.taken;
      case 5: return asked.refused;
      default: throw new IllegalArgumentException("what is 0 to 5");
    }
  }

  public int tableAt(int host, int other) throws IndexOutOfBoundsException {
    if (!hasHost(host) || !hasHost(other)) throw new IndexOutOfBoundsException("no such host");
    Host asked = hosts.get(host);
    int place = asked.placeOf(FIRST_ADDRESS + other);
    return place == NONE ? NONE : (int) (asked.hardwareAt(place) & 255);
  }

  public int deliver(int choice) throws IllegalArgumentException {
    if (isNoChoice(choice)) throw new IllegalArgumentException("a choice is 0 to 1000");
    return carryOne(choice);
  }

  public int lose(int choice) throws IllegalArgumentException {
    if (isNoChoice(choice)) throw new IllegalArgumentException("a choice is 0 to 1000");
    return wire.loseOne(choice);
  }

  public int twice(int choice) throws IllegalArgumentException {
    if (isNoChoice(choice)) throw new IllegalArgumentException("a choice is 0 to 1000");
    return wire.doubleOne(choice);
  }

  public int spoil(int choice, int at, int by) throws IllegalArgumentException {
    if (isNoChoice(choice) || isNoChoice(at) || by < 1 || by > 255) {
      throw new IllegalArgumentException("choice and at are 0 to 1000, by is 1 to 255");
    }
    return wire.spoilOne(choice, at, by);
  }

  public int frameAt(int frame, int what) throws IndexOutOfBoundsException, IllegalArgumentException {
    if (frame < 0 || frame >= wire.many) throw new IndexOutOfBoundsException("no such frame");
    Frame asked = wire.frames[frame];
    switch (what) {
      case 0: return asked.bytes.length();
      case 1: return asked.sender;
      case 2: return asked.isSpoilt ? 1 : 0;
      case 3: return asked.isPiece ? 1 : 0;
      default: throw new IllegalArgumentException("what is 0 to 3");
    }
  }

  public int byteAt(int frame, int index) throws IndexOutOfBoundsException {
    if (frame < 0 || frame >= wire.many) throw new IndexOutOfBoundsException("no such frame");
    Row bytes = wire.frames[frame].bytes;
    if (index < 0 || index >= bytes.length()) throw new IndexOutOfBoundsException("no such byte");
    return bytes.at(index);
  }

  public int pass(int ticks) throws IllegalArgumentException, IllegalStateException {
    if (ticks < 1 || ticks > 100) throw new IllegalArgumentException("ticks is 1 to 100");
    if (wire.time + ticks > MOST_TIME) throw new IllegalStateException("the time is at most 20000");
    for (int k = 0; k < ticks; k++) tick();
    return wire.time;
  }

  public int settle(int ticks) throws IllegalArgumentException, IllegalStateException {
    if (ticks < 1 || ticks > 60) throw new IllegalArgumentException("ticks is 1 to 60");
    if (wire.time + ticks > MOST_TIME) throw new IllegalStateException("the time is at most 20000");
    int delivered = 0;
    int passed = 0;
    for (int k = 0; k < MOST_SETTLED + 60; k++) {
      if (wire.many > 0) {
        carryOne(0);
        delivered++;
        if (delivered == MOST_SETTLED) return passed;
      } else if (passed < ticks && isTimerRunning()) {
        tick();
        passed++;
      } else {
        return passed;
      }
    }
    return passed;
  }

  public int play(int seed, int many) throws IllegalArgumentException, IllegalStateException {
    if (many < 1 || many > 200) throw new IllegalArgumentException("many is 1 to 200");
    if (wire.time + many > MOST_TIME) throw new IllegalStateException("the time is at most 20000");
    int drawn = seed;
    for (int k = 0; k < many; k++) {
      drawn = nextSeed(drawn);
      int act = draw(drawn, 16);
      if (act > 13) {
        tick();
        continue;
      }
      drawn = nextSeed(drawn);
      int choice = draw(drawn, 1000);
      if (act <= 10) carryOne(choice);
      else if (act == 11) wire.loseOne(choice);
      else if (act == 12) wire.doubleOne(choice);
      else {
        drawn = nextSeed(drawn);
        int at = draw(drawn, 1000);
        drawn = nextSeed(drawn);
        wire.spoilOne(choice, at, draw(drawn, 255) + 1);
      }
    }
    return wire.time;
  }

  // ---- echoes and names

  public int echo(int host, int to, int many)
      throws IndexOutOfBoundsException, IllegalArgumentException, IllegalStateException {
    if (!hasHost(host) || !hasHost(to)) throw new IndexOutOfBoundsException("no such host");
    if (host == to || many < 0 || many > 900) throw new IllegalArgumentException("another host, and 0 to 900 bytes");
    if (echoes.size() >= MOST_ECHOES) throw new IllegalStateException("there are 40 echoes");
    int number = echoes.size();
    Datagram question = new Datagram();
    question.begin(host, FIRST_ADDRESS + to, ECHOES);
    Row bytes = question.bytes;
    bytes.addTwo(0x0800);
    bytes.addTwo(0);
    bytes.addTwo(number);
    bytes.addTwo(ECHO_NUMBER);
    for (int k = 0; k < many; k++) bytes.add(k & 255);
    bytes.setTwo(2, bytes.sumOver(0, bytes.length(), 0));
    echoes.add(question);
    wire.layOut(question);
    postAll();
    return number;
  }

  public boolean isAnswered(int echo) throws IndexOutOfBoundsException {
    if (echo < 0 || echo >= echoes.size()) throw new IndexOutOfBoundsException("no such echo");
    return isEchoAnswered[echo];
  }

  public int name(int host) throws IndexOutOfBoundsException, IllegalStateException {
    if (!hasHost(host)) throw new IndexOutOfBoundsException("no such host");
    int parts = readName();
    if (parts == NONE) throw new IllegalStateException("the tape is no name");
    int owner = ownerOf(nameAsked, 0, nameAsked.length());
    if (owner != NONE && owner != host) throw new IllegalStateException("another host has the name");
    Row own = hosts.get(host).ownName;
    own.empty();
    own.addRow(nameAsked, 0, nameAsked.length());
    tape.empty();
    return parts;
  }

  public int lookUp(int host) throws IndexOutOfBoundsException, IllegalArgumentException, IllegalStateException {
    if (!hasHost(host)) throw new IndexOutOfBoundsException("no such host");
    if (host == 0) throw new IllegalArgumentException("the server does not ask");
    if (readName() == NONE) throw new IllegalStateException("the tape is no name");
    if (lookups.size() >= MOST_LOOKUPS) throw new IllegalStateException("there are 40 lookups");
    int number = lookups.size();
    Datagram question = new Datagram();
    question.begin(host, FIRST_ADDRESS, NAMES);
    Row bytes = question.bytes;
    bytes.addTwo(FIRST_ASKING_PORT + number);
    bytes.addTwo(NAME_PORT);
    bytes.addFour(0);
    bytes.addTwo(number);
    bytes.addTwo(0x0100);
    bytes.addTwo(1);
    bytes.addTwo(0);
    bytes.addFour(0);
    bytes.addRow(nameAsked, 0, nameAsked.length());
    bytes.addTwo(1);
    bytes.addTwo(1);
    question.closeNames();
    foundHosts[number] = NONE;
    lookups.add(question);
    tape.empty();
    wire.layOut(question);
    postAll();
    return number;
  }

  public void askAgain(int lookup) throws IndexOutOfBoundsException, IllegalStateException {
    if (lookup < 0 || lookup >= lookups.size()) throw new IndexOutOfBoundsException("no such lookup");
    if (foundHosts[lookup] != NONE) throw new IllegalStateException("the lookup has an answer");
    wire.layOut(lookups.get(lookup));
    postAll();
  }

  public int found(int lookup) throws IndexOutOfBoundsException {
    if (lookup < 0 || lookup >= lookups.size()) throw new IndexOutOfBoundsException("no such lookup");
    return foundHosts[lookup];
  }

  // ---- connections

  public int connect(int host, int to, int port)
      throws IndexOutOfBoundsException, IllegalArgumentException, IllegalStateException {
    if (!hasHost(host) || !hasHost(to)) throw new IndexOutOfBoundsException("no such host");
    if (host == 0 || host == to || port < 1 || port > 65535) {
      throw new IllegalArgumentException("a client, another host, and a port 1 to 65535");
    }
    int number = connections.size();
    if (number >= MOST_CONNECTIONS) throw new IllegalStateException("there are 60 connections");
    Connection begun = new Connection(number, hosts.get(host), FIRST_ADDRESS + to, port, wire);
    connections.add(begun);
    begun.beginAsClient();
    postAll();
    return number;
  }

  public int write(int connection) throws IndexOutOfBoundsException, IllegalStateException {
    if (!hasConnection(connection)) throw new IndexOutOfBoundsException("no such connection");
    Connection to = connections.get(connection);
    if (to.isServers() || !to.isToBeClosed()) throw new IllegalStateException("nothing can be written on it");
    int many = to.takeWritten(tape);
    tape.removeFirst(many);
    to.transmit();
    postAll();
    return many;
  }

  public int read(int connection, int many)
      throws IndexOutOfBoundsException, IllegalArgumentException, IllegalStateException {
    if (!hasConnection(connection)) throw new IndexOutOfBoundsException("no such connection");
    if (many < 1 || many > 300) throw new IllegalArgumentException("many is 1 to 300");
    Connection from = connections.get(connection);
    if (from.isServers()) throw new IllegalStateException("it is the server's");
    int got = from.takeUnread(many);
    from.transmit();
    postAll();
    return got == 0 && from.isEndTold() ? NONE : got;
  }

  public int readAt(int connection, int index) throws IndexOutOfBoundsException {
    if (!hasConnection(connection)) throw new IndexOutOfBoundsException("no such connection");
    Receiver receiver = connections.get(connection).receiver;
    if (index < 0 || index >= receiver.taken) throw new IndexOutOfBoundsException("no such byte");
    return receiver.in.at(index);
  }

  public int close(int connection, boolean isAborted) throws IndexOutOfBoundsException, IllegalStateException {
    if (!hasConnection(connection)) throw new IndexOutOfBoundsException("no such connection");
    Connection closed = connections.get(connection);
    if (closed.isServers() || closed.state == CLOSED || !isAborted && !closed.isToBeClosed()) {
      throw new IllegalStateException("it cannot be closed");
    }
    if (isAborted) closed.giveUpAtOnce();
    else closed.finish();
    closed.transmit();
    postAll();
    return closed.state;
  }

  public int connectionAt(int connection, int what) throws IndexOutOfBoundsException, IllegalArgumentException {
    if (!hasConnection(connection)) throw new IndexOutOfBoundsException("no such connection");
    if (what < 0 || what > 18) throw new IllegalArgumentException("what is 0 to 18");
    return connections.get(connection).tell(what);
  }

  // ---- the server

  public int fileAt(int file, int what) throws IndexOutOfBoundsException, IllegalArgumentException {
    if (file < 0 || file >= house.many) throw new IndexOutOfBoundsException("no such file");
    switch (what) {
      case 0: return house.contents[file].length();
      case 1: return house.versions[file];
      case 2: return house.names[file].length();
      default: throw new IllegalArgumentException("what is 0 to 2");
    }
  }

  public int fileByteAt(int file, boolean isName, int index) throws IndexOutOfBoundsException {
    if (file < 0 || file >= house.many) throw new IndexOutOfBoundsException("no such file");
    Row bytes = isName ? house.names[file] : house.contents[file];
    if (index < 0 || index >= bytes.length()) throw new IndexOutOfBoundsException("no such byte");
    return bytes.at(index);
  }

  public int servedAt(int request, int what) throws IndexOutOfBoundsException, IllegalArgumentException {
    if (request < 0 || request >= servedMany()) throw new IndexOutOfBoundsException("no such request");
    if (what < 0 || what > 6) throw new IllegalArgumentException("what is 0 to 6");
    return servedNumber(request, what);
  }

  public int answerAt(int request, int index) throws IndexOutOfBoundsException {
    if (request < 0 || request >= servedMany()) throw new IndexOutOfBoundsException("no such request");
    if (index < 0 || index >= servedNumber(request, 3)) throw new IndexOutOfBoundsException("no such byte");
    int connection = servedNumber(request, 0);
    if (!hasConnection(connection)) throw new IndexOutOfBoundsException("no such request");
    return connections.get(connection).sender.out.at(servedNumber(request, SERVED_BEGIN) + index);
  }

  // ---- counts and checks

  public int count(int what) throws IllegalArgumentException {
    switch (what) {
      case 0: return wire.time;
      case 1: return hosts.size();
      case 2: return wire.many;
      case 3: return wire.sent;
      case 4: return wire.lost;
      case 5: return wire.spoilings;
      case 6: return connections.size();
      case 7: return openMany(false);
      case 8: return house.many;
      case 9: return house.latest;
      case 10: return servedMany();
      case 11: return servedWell();
      case 12: return wire.sentAgain;
      case 13: return wire.resets;
      case 14: return answeredEchoes();
      case 15: return tape.length();
      default: throw new IllegalArgumentException("what is 0 to 15");
    }
  }

  public boolean agrees() {
    naiveHouse.forget();
    for (int k = 0; k < MOST_CONNECTIONS; k++) naivePlaces[k] = 0;
    int many = servedMany();
    for (int k = 0; k < many; k++) {
      if (!isServedNaively(k)) return false;
    }
    return house.isLike(naiveHouse);
  }

  public int errors() {
    int wrong = wire.strangers + wire.wrongSums();
    if (wire.sent != wire.delivered + wire.lost + wire.many) wrong++;
    for (int k = 0; k < connections.size(); k++) {
      if (hasReadOtherwise(connections.get(k))) wrong++;
    }
    return wrong;
  }

  public double deliveredShare() {
    if (wire.sent <= 0) return 0.0;
    return (double) wire.delivered / (double) wire.sent;
  }

  public float meanAnswer() {
    int many = servedMany();
    if (many <= 0) return 0.0f;
    int total = 0;
    for (int k = 0; k < many; k++) total += servedNumber(k, 3);
    return (float) total / (float) many;
  }

  // ---- small questions of the calls above

  private boolean hasHost(int host) {
    return host >= 0 && host < hosts.size();
  }

  private boolean hasConnection(int connection) {
    return connection >= 0 && connection < connections.size();
  }

  private static boolean isNoChoice(int choice) {
    return choice < 0 || choice > 1000;
  }

  private static int nextSeed(int seed) {
    return seed * 1103515245 + 12345;
  }

  private static int draw(int seed, int many) {
    return many < 1 ? 0 : (seed >>> 16) % many;
  }

  /** Tells whether a is ahead of b, by numbers that go round. */
  private static boolean isAhead(int a, int b) {
    return b - a > 0;
  }

  private static int bytesIn(long number) {
    int many = 0;
    for (int shift = 56; shift >= 0; shift -= 8) {
      if (((number >>> shift) & 255) != 0) many++;
    }
    return many;
  }

  private void typeNumber(long number) {
    for (int shift = 56; shift >= 0; shift -= 8) {
      int value = (int) ((number >>> shift) & 255);
      if (value != 0) tape.add(value);
    }
  }

  private static String pieceText(int which) {
    switch (which) {
      case 0: return "GET /a HTTP/1.1\r\nHost: h\r\n\r\n";
      case 1: return "PUT /a HTTP/1.1\r\nHost: h\r\nContent-Length: 5\r\n\r\nhello";
      case 2: return "GET / HTTP/1.0\r\n\r\n";
      case 3: return "POST /a HTTP/1.1\r\nHost: h\r\nTransfer-Encoding: chunked\r\n\r\n3\r\nabc\r\n0\r\n\r\n";
      case 4: return "DELETE /a HTTP/1.1\r\nHost: h\r\nConnection: close\r\n\r\n";
      default: return "GET /a HTTP/1.1\r\nHost: h\r\nRange: bytes=1-3\r\nIf-None-Match: \"v2\"\r\n\r\n";
    }
  }

  private int answeredEchoes() {
    int many = 0;
    for (int k = 0; k < MOST_ECHOES; k++) {
      if (isEchoAnswered[k]) many++;
    }
    return many;
  }

  private int openMany(boolean isOfServer) {
    int many = 0;
    for (int k = 0; k < connections.size(); k++) {
      Connection one = connections.get(k);
      if (one.state != CLOSED && (!isOfServer || one.isServers())) many++;
    }
    return many;
  }

  private boolean isTimerRunning() {
    for (int k = 0; k < connections.size(); k++) {
      if (connections.get(k).isTimed()) return true;
    }
    return false;
  }

  // ---- the wire's work

  /** Posts what was laid out, host by host in the order in which it was. */
  private void postAll() {
    for (int k = 0; k < wire.laidOut; k++) {
      Datagram next = wire.outgoing[k];
      if (hasHost(next.from)) hosts.get(next.from).post(next, wire);
    }
    wire.laidOut = 0;
  }

  private int carryOne(int choice) {
    if (wire.many < 1) return NONE;
    Frame frame = wire.takeOut(choice % wire.many);
    wire.delivered++;
    long to = frame.bytes.hardwareAt(0);
    int reached = 0;
    for (int h = 0; h < hosts.size(); h++) {
      if (to != FIRST_HARDWARE + h && (to != ALL_HARDWARE || h == frame.sender)) continue;
      reached++;
      Host host = hosts.get(h);
      int taken = host.takeFrame(frame, wire.time, arrived);
      if (taken == TAKEN_MESSAGE) host.sendLearned(frame, wire);
      if (taken == TAKEN_DATAGRAM) {
        if (arrived.protocol == ECHOES) takeEcho(h);
        else if (arrived.protocol == NAMES) takeNames(h);
        else if (arrived.protocol == CONNECTIONS) takeSegment(h);
        postAll();
      }
    }
    return reached;
  }

  private void tick() {
    wire.time++;
    for (int h = 0; h < hosts.size(); h++) {
      hosts.get(h).dropOld(wire.time);
      for (int k = 0; k < connections.size(); k++) {
        Connection one = connections.get(k);
        if (one.host == h) one.age();
      }
      postAll();
    }
  }

  // ---- echoes and names that come in

  private void takeEcho(int host) {
    Row bytes = arrived.bytes;
    int length = bytes.length();
    if (length < 8 || bytes.sumOver(0, length, 0) != 0) return;
    if (arrived.isSpoilt) wire.strangers++;
    int kind = bytes.twoAt(0);
    if (kind == 0x0800) {
      Row answer = wire.letter(host, arrived.sender, ECHOES).bytes;
      answer.addRow(bytes, 0, length);
      answer.setTwo(0, 0);
      answer.setTwo(2, 0);
      answer.setTwo(2, answer.sumOver(0, length, 0));
    } else if (kind == 0) {
      int number = bytes.twoAt(4);
      if (number >= echoes.size() || number >= MOST_ECHOES) return;
      Datagram question = echoes.get(number);
      if (question.from == host && question.receiver == arrived.sender
          && length == question.bytes.length() && bytes.isSame(4, question.bytes, 4, length - 4)) {
        isEchoAnswered[number] = true;
      }
    }
  }

  private void takeNames(int host) {
    Row bytes = arrived.bytes;
    int length = bytes.length();
    if (length < 8 || bytes.twoAt(4) != length) return;
    boolean isSummed = bytes.twoAt(6) != 0;
    if (isSummed && bytes.sumOver(0, length, arrived.headSum()) != 0) return;
    // A sum that was spoilt to 0 counts as none: what it stood over is as it was sent.
    if (arrived.isSpoilt && isSummed) wire.strangers++;
    if (host == 0 && bytes.twoAt(2) == NAME_PORT) answerName();
    else takeAnswer(host);
  }

  private void answerName() {
    Row bytes = arrived.bytes;
    int behind = bytes.behindName(20);
    if (behind == NONE || bytes.length() != behind + 4 || !isQuestionHead(bytes)) return;
    if (bytes.twoAt(behind) != 1 || bytes.twoAt(behind + 2) != 1) return;
    int owner = ownerOf(bytes, 20, behind);
    Datagram answer = wire.letter(0, arrived.sender, NAMES);
    Row out = answer.bytes;
    out.addTwo(NAME_PORT);
    out.addTwo(bytes.twoAt(0));
    out.addFour(0);
    out.addTwo(bytes.twoAt(8));
    out.addTwo(owner == NONE ? 0x8503 : 0x8500);
    out.addTwo(1);
    out.addTwo(owner == NONE ? 0 : 1);
    out.addFour(0);
    out.addRow(bytes, 20, behind + 4 - 20);
    if (owner != NONE) {
      out.addTwo(0xc00c);
      out.addTwo(1);
      out.addTwo(1);
      out.addFour(60);
      out.addTwo(4);
      out.addFour(FIRST_ADDRESS + owner);
    }
    answer.closeNames();
  }

  private static boolean isQuestionHead(Row bytes) {
    return bytes.twoAt(10) == 0x0100 && bytes.twoAt(12) == 1 && bytes.twoAt(14) == 0 && bytes.fourAt(16) == 0;
  }

  private void takeAnswer(int host) {
    Row bytes = arrived.bytes;
    int number = bytes.twoAt(2) - FIRST_ASKING_PORT;
    if (number < 0 || number >= lookups.size() || number >= MOST_LOOKUPS) return;
    Datagram question = lookups.get(number);
    if (question.from != host || arrived.sender != FIRST_ADDRESS || bytes.twoAt(0) != NAME_PORT) return;
    if (foundHosts[number] != NONE) return;
    int asked = question.bytes.length();
    if (bytes.twoAt(8) != question.bytes.twoAt(8) || bytes.twoAt(12) != 1 || bytes.fourAt(16) != 0) return;
    if (bytes.length() < asked || !bytes.isSame(20, question.bytes, 20, asked - 20)) return;
    int kind = bytes.twoAt(10);
    int answers = bytes.twoAt(14);
    if (kind == 0x8503 && answers == 0 && bytes.length() == asked) foundHosts[number] = FOUND_NONE;
    if (kind == 0x8500 && answers == 1 && bytes.length() == asked + 16) {
      int owner = bytes.fourAt(asked + 12) - FIRST_ADDRESS;
      if (hasHost(owner)) foundHosts[number] = owner;
    }
  }

  /** Puts the name on the tape, as it stands in messages, into nameAsked. */
  private int readName() {
    nameAsked.empty();
    int parts = 0;
    int begin = 0;
    for (int k = 0; k <= tape.length(); k++) {
      int value = tape.at(k);
      if (k < tape.length() && value != '.') {
        boolean isGood = value >= 'a' && value <= 'z' || value >= '0' && value <= '9' || value == '-';
        if (!isGood) return NONE;
        continue;
      }
      int many = k - begin;
      if (many < 1 || many > 20 || parts == 5) return NONE;
      nameAsked.add(many);
      nameAsked.addRow(tape, begin, many);
      parts++;
      begin = k + 1;
    }
    nameAsked.add(0);
    return parts;
  }

  private int ownerOf(Row bytes, int from, int behind) {
    for (int h = 0; h < hosts.size(); h++) {
      Row own = hosts.get(h).ownName;
      if (own.length() == behind - from && own.isSame(0, bytes, from, behind - from)) return h;
    }
    return NONE;
  }

  // ---- segments that come in, and requests

  private void takeSegment(int host) {
    if (!segment.isRightIn(arrived)) return;
    if (arrived.isSpoilt) wire.strangers++;
    Connection to = connectionOf(host);
    if (to == null) {
      if (isBeginning(host)) newServers().beginAsServer(segment);
      else if (!segment.has(RST)) wire.answerByReset(segment);
      return;
    }
    boolean wasAsking = to.state == SYN_SENT;
    if (!to.arrive(segment)) return;
    if (wasAsking) to.other = serversOf(to, segment.sequence);
    if (to.isServers()) serve(to);
    to.transmit();
  }

  private Connection connectionOf(int host) {
    for (int k = 0; k < connections.size(); k++) {
      Connection one = connections.get(k);
      if (one.state != CLOSED && one.host == host && one.port == segment.toPort
          && one.otherAddress == segment.sender && one.otherPort == segment.port) {
        return one;
      }
    }
    return null;
  }

  private boolean isBeginning(int host) {
    return host == 0 && segment.toPort == PAGE_PORT && segment.has(SYN) && !segment.has(ACK) && !segment.has(RST)
        && openMany(true) < MOST_OPEN && connections.size() < MOST_CONNECTIONS;
  }

  private Connection newServers() {
    Connection begun = new Connection(connections.size(), hosts.get(0), segment.sender, segment.port, wire);
    int other = segment.port - FIRST_CLIENT_PORT;
    if (hasConnection(other) && !connections.get(other).isServers()) begun.other = other;
    connections.add(begun);
    return begun;
  }

  /** Finds the server's connection with whose SYN a client's became ESTABLISHED: no two begin with one number. */
  private int serversOf(Connection client, int sequence) {
    for (int k = 0; k < connections.size(); k++) {
      Connection one = connections.get(k);
      if (one.isServers() && one.sender.iss == sequence && one.other == client.number) return k;
    }
    return NONE;
  }

  private void serve(Connection to) {
    Reader reader = to.reader;
    if (reader == null || to.state == CLOSED) return;
    for (int k = 0; k <= MOST_UNREAD; k++) {
      to.writeRest();
      if (to.hasRest()) return;
      if (to.isLast) {
        to.finish();
        return;
      }
      int told = 0;
      for (int n = 0; n < MOST_UNREAD && told == 0 && to.takeUnread(1) == 1; n++) {
        told = reader.feed(to.receiver.in.at(to.receiver.taken - 1));
      }
      if (told == 0) {
        if (to.isEndTold()) to.finish();
        return;
      }
      int begin = to.sender.out.length();
      int code = house.perform(reader, told);
      to.isLast = told != WHOLE || reader.isLast();
      house.writeAnswer(reader, code, to.isLast, to.sender.out);
      noteServed(to, code, begin);
      reader.begin();
    }
  }

  private void noteServed(Connection to, int code, int begin) {
    served.add(to.number);
    served.add(to.requests);
    served.add(code);
    served.add(to.sender.out.length() - begin);
    served.add(to.reader == null ? 0 : to.reader.bytes);
    served.add(to.isLast ? 1 : 0);
    served.add(wire.time);
    served.add(begin);
    to.requests++;
  }

  private int servedMany() {
    return served.length() / SERVED_NUMBERS;
  }

  private int servedNumber(int request, int what) {
    return served.at(request * SERVED_NUMBERS + what);
  }

  private int servedWell() {
    int well = 0;
    int many = servedMany();
    for (int k = 0; k < many; k++) {
      if (servedNumber(k, 2) < 400) well++;
    }
    return well;
  }

  // ---- the theorem

  private boolean isServedNaively(int request) {
    int number = servedNumber(request, 0);
    if (!hasConnection(number) || number >= MOST_CONNECTIONS) return false;
    Connection servers = connections.get(number);
    if (!hasConnection(servers.other)) return false;
    Sender client = connections.get(servers.other).sender;
    naiveReader.begin();
    int told = 0;
    int place = naivePlaces[number];
    while (told == 0 && place < client.wrote) {
      told = naiveReader.feed(client.out.at(place));
      place++;
    }
    if (told == 0) return false;
    naivePlaces[number] = place;
    naiveAnswer.empty();
    int code = naiveHouse.perform(naiveReader, told);
    boolean isLast = told != WHOLE || naiveReader.isLast();
    naiveHouse.writeAnswer(naiveReader, code, isLast, naiveAnswer);
    return code == servedNumber(request, 2)
        && naiveAnswer.length() == servedNumber(request, 3)
        && naiveReader.bytes == servedNumber(request, 4)
        && (isLast ? 1 : 0) == servedNumber(request, 5)
        && naiveAnswer.isSame(0, servers.sender.out, servedNumber(request, SERVED_BEGIN), naiveAnswer.length());
  }

  /** What was read is the beginning of what the other end wrote, and all of it if the end was told. */
  private boolean hasReadOtherwise(Connection one) {
    int read = one.receiver.taken;
    if (!hasConnection(one.other)) return read > 0;
    Sender wrote = connections.get(one.other).sender;
    if (read > wrote.wrote || one.isEndTold() && read < wrote.wrote) return true;
    return !one.receiver.in.isSame(0, wrote.out, 0, read);
  }

  /** A row of numbers, mostly bytes, that grows as they come. */
  private static final class Row {
    private int[] cells;
    private int length;

    Row(int room) {
      cells = new int[room < 1 ? 1 : room];
    }

    int length() {
      return length;
    }

    int at(int index) {
      return index >= 0 && index < length ? cells[index] : 0;
    }

    int twoAt(int index) {
      return at(index) << 8 | at(index + 1);
    }

    int fourAt(int index) {
      return at(index) << 24 | at(index + 1) << 16 | at(index + 2) << 8 | at(index + 3);
    }

    long hardwareAt(int index) {
      long value = 0;
      for (int k = 0; k < 6; k++) value = value << 8 | at(index + k);
      return value;
    }

    void empty() {
      length = 0;
    }

    void setAt(int index, int value) {
      if (index >= 0 && index < length) cells[index] = value;
    }

    void setTwo(int index, int value) {
      if (index < 0 || index + 2 > length) return;
      cells[index] = value >> 8 & 255;
      cells[index + 1] = value & 255;
    }

    void add(int value) {
      if (length >= cells.length) cells = Arrays.copyOf(cells, 2 * length + 1);
      cells[length] = value;
      length++;
    }

    void addTwo(int value) {
      if (length + 2 > cells.length) cells = Arrays.copyOf(cells, 2 * length + 2);
      cells[length] = value >> 8 & 255;
      cells[length + 1] = value & 255;
      length += 2;
    }

    void addFour(int value) {
      addTwo(value >>> 16);
      addTwo(value);
    }

    void addHardware(long value) {
      addTwo((int) (value >>> 32));
      addTwo((int) (value >>> 16));
      addTwo((int) value);
    }

    void addRow(Row other, int from, int many) {
      if (from < 0 || many < 1 || from > other.length - many) return;
      if (many > cells.length - length) cells = Arrays.copyOf(cells, 2 * length + many);
      System.arraycopy(other.cells, from, cells, length, many);
      length += many;
    }

    void addZeros(int many) {
      if (many < 1) return;
      if (many > cells.length - length) cells = Arrays.copyOf(cells, 2 * length + many);
      Arrays.fill(cells, length, length + many, 0);
      length += many;
    }

    void addText(String text) {
      int many = text.length();
      if (many > cells.length - length) cells = Arrays.copyOf(cells, 2 * length + many);
      for (int k = 0; k < many; k++) cells[length + k] = text.charAt(k);
      length += many;
    }

    void addNumber(int number) {
      int unit = 1;
      for (int k = 0; k < 9 && number / 10 >= unit; k++) unit *= 10;
      if (length + 10 > cells.length) cells = Arrays.copyOf(cells, 2 * length + 10);
      for (int k = 0; k < 10 && unit > 0; k++) {
        cells[length] = '0' + number / unit % 10;
        length++;
        unit /= 10;
      }
    }

    void removeFirst(int many) {
      if (many < 1 || many > length) return;
      System.arraycopy(cells, many, cells, 0, length - many);
      length -= many;
    }

    boolean isSame(int from, Row other, int otherFrom, int many) {
      if (many < 0 || from < 0 || otherFrom < 0) return false;
      if (from > length - many || otherFrom > other.length - many) return false;
      for (int k = 0; k < many; k++) {
        if (cells[from + k] != other.cells[otherFrom + k]) return false;
      }
      return true;
    }

    /** Tells by its sign which of two rows comes first by their bytes. */
    int compare(Row other) {
      int least = Math.min(length, other.length);
      for (int k = 0; k < least; k++) {
        if (cells[k] != other.cells[k]) return cells[k] - other.cells[k];
      }
      return length - other.length;
    }

    boolean hasText(int from, String text) {
      int many = text.length();
      if (from < 0 || from > length - many) return false;
      for (int k = 0; k < many; k++) {
        if (cells[from + k] != text.charAt(k)) return false;
      }
      return true;
    }

    /** Tells whether a part is a word of small letters, where great ones count as small ones. */
    boolean isWord(int from, int behind, String word) {
      int many = word.length();
      if (from < 0 || behind > length || behind - from != many) return false;
      for (int k = 0; k < many; k++) {
        int value = cells[from + k];
        int small = value >= 'A' && value <= 'Z' ? value + 32 : value;
        if (small != word.charAt(k)) return false;
      }
      return true;
    }

    /** Returns a number of 1 to 6 digits, or NONE. */
    int numberAt(int from, int behind) {
      int many = behind - from;
      if (from < 0 || behind > length || many < 1 || many > 6) return NONE;
      int number = 0;
      for (int k = from; k < behind; k++) {
        int digit = cells[k] - '0';
        if (digit < 0 || digit > 9) return NONE;
        number = number * 10 + digit;
      }
      return number;
    }

    /** Returns the index behind a name that begins here, or NONE if none does. */
    int behindName(int from) {
      int place = from;
      for (int parts = 0; parts <= 5; parts++) {
        if (place < 0 || place >= length) return NONE;
        int many = cells[place];
        if (many == 0) return parts > 0 ? place + 1 : NONE;
        if (many > 20) return NONE;
        place += many + 1;
      }
      return NONE;
    }

    /** Returns the sum of section 4 over a part, with what was added up ahead of it; NONE if there is no such part. */
    int sumOver(int from, int behind, int head) {
      long total = head;
      if (from < 0 || behind > length) return NONE;
      for (int k = from; k < behind; k += 2) total += cells[k] << 8 | (k + 1 < behind ? cells[k + 1] : 0);
      for (int k = 0; k < 4; k++) total = (total & 65535) + (total >>> 16);
      return (int) (65535 - total);
    }
  }

  /** What the wire carries. */
  private static final class Frame {
    final Row bytes = new Row(614);
    int sender;
    boolean isSpoilt;
    boolean isPiece;
    int spoiltAt;
  }

  /** The frames on their way, the time, and the pile of what is to be sent. */
  private static final class Wire {
    final Frame[] frames = new Frame[MOST_FRAMES];
    /** Holds the frame that was taken out last, so that what is sent meanwhile does not overwrite it. */
    Frame spare = new Frame();
    final Frame lostOne = new Frame();
    int many;
    int sent;
    int lost;
    int delivered;
    int spoilings;
    int time;
    final Datagram[] outgoing = new Datagram[MOST_LAID_OUT];
    int laidOut;
    int sentAgain;
    int resets;
    /** Messages that were taken, but not as they were sent. */
    int strangers;

    Wire() {
      for (int k = 0; k < MOST_FRAMES; k++) frames[k] = new Frame();
      for (int k = 0; k < MOST_LAID_OUT; k++) outgoing[k] = new Datagram();
    }

    /** Returns an empty frame at the end of the wire; one that goes nowhere if the wire is full. */
    Frame open(int sender, boolean isPiece) {
      sent++;
      Frame frame = lostOne;
      if (many < MOST_FRAMES) {
        frame = frames[many];
        many++;
      } else {
        lost++;
      }
      frame.bytes.empty();
      frame.sender = sender;
      frame.isPiece = isPiece;
      frame.isSpoilt = false;
      frame.spoiltAt = NONE;
      return frame;
    }

    Frame takeOut(int index) {
      if (index < 0 || index >= many) return lostOne;
      Frame taken = frames[index];
      for (int k = index + 1; k < many; k++) frames[k - 1] = frames[k];
      many--;
      frames[many] = spare;
      spare = taken;
      return taken;
    }

    int loseOne(int choice) {
      if (many < 1) return NONE;
      lost++;
      return takeOut(choice % many).bytes.length();
    }

    int doubleOne(int choice) {
      if (many < 1) return NONE;
      Frame first = frames[choice % many];
      Frame second = open(first.sender, first.isPiece);
      second.isSpoilt = first.isSpoilt;
      second.spoiltAt = first.spoiltAt;
      second.bytes.addRow(first.bytes, 0, first.bytes.length());
      return first.bytes.length();
    }

    int spoilOne(int choice, int at, int by) {
      if (many < 1) return NONE;
      Frame frame = frames[choice % many];
      int length = frame.bytes.length();
      if (frame.isSpoilt || frame.isPiece || length < 1) return NONE;
      int index = at % length;
      frame.bytes.setAt(index, frame.bytes.at(index) ^ by);
      frame.isSpoilt = true;
      frame.spoiltAt = index;
      spoilings++;
      return index;
    }

    /**
     * Returns an empty datagram on the pile of what is to be sent. The pile is never full: a segment sets free some
     * 20 at most (600 bytes by 40, and what answers it), a tick two for each open connection of a host.
     */
    Datagram letter(int from, int receiver, int protocol) {
      if (laidOut >= MOST_LAID_OUT) laidOut = MOST_LAID_OUT - 1;
      Datagram next = outgoing[laidOut];
      next.begin(from, receiver, protocol);
      laidOut++;
      return next;
    }

    void layOut(Datagram datagram) {
      letter(datagram.from, datagram.receiver, datagram.protocol)
          .bytes.addRow(datagram.bytes, 0, datagram.bytes.length());
    }

    void answerByReset(Segment segment) {
      resets++;
      Datagram datagram = letter(segment.receiver - FIRST_ADDRESS, segment.sender, CONNECTIONS);
      Row bytes = datagram.bytes;
      boolean isAcknowledged = segment.has(ACK);
      int length = segment.many + (segment.has(SYN) ? 1 : 0) + (segment.has(FIN) ? 1 : 0);
      bytes.addTwo(segment.toPort);
      bytes.addTwo(segment.port);
      bytes.addFour(isAcknowledged ? segment.acknowledgement : 0);
      bytes.addFour(isAcknowledged ? 0 : segment.sequence + length);
      bytes.addTwo(0x5000 | (isAcknowledged ? RST : RST | ACK));
      bytes.addTwo(0);
      bytes.addFour(0);
      datagram.closeSegment();
    }

    int wrongSums() {
      int wrong = 0;
      for (int k = 0; k < many; k++) {
        Frame frame = frames[k];
        if (frame.isSpoilt || frame.bytes.twoAt(12) != DATAGRAM) continue;
        if (frame.bytes.sumOver(14, 34, 0) != 0) wrong++;
      }
      return wrong;
    }
  }

  /** A datagram without its header: to be sent, waiting, being put together, or arrived. */
  private static final class Datagram {
    int from;
    int sender;
    int receiver;
    int protocol;
    int identification;
    int mtu;
    int time;
    int end;
    boolean isSpoilt;
    final Row bytes = new Row(64);
    /** A 1 for each byte that has come, while it is being put together. */
    final Row present = new Row(1);

    void begin(int host, int to, int kind) {
      from = host;
      sender = FIRST_ADDRESS + host;
      receiver = to;
      protocol = kind;
      identification = 0;
      mtu = 0;
      time = 0;
      end = NONE;
      isSpoilt = false;
      bytes.length = 0;
      present.length = 0;
    }

    void copyOf(Datagram other) {
      begin(other.from, other.receiver, other.protocol);
      sender = other.sender;
      identification = other.identification;
      mtu = other.mtu;
      bytes.addRow(other.bytes, 0, other.bytes.length());
    }

    /** Adds up what stands ahead of the sums of names and segments. */
    int headSum() {
      return (sender >>> 16) + (sender & 65535) + (receiver >>> 16) + (receiver & 65535) + protocol
          + bytes.length;
    }

    void closeNames() {
      bytes.setTwo(4, bytes.length());
      int sum = bytes.sumOver(0, bytes.length(), headSum());
      bytes.setTwo(6, sum == 0 ? 65535 : sum);
    }

    void closeSegment() {
      bytes.setTwo(16, bytes.sumOver(0, bytes.length(), headSum()));
    }

    void putPiece(Row frame, int from, int many, int place) {
      bytes.addZeros(place + many - bytes.length());
      present.addZeros(place + many - present.length());
      for (int k = 0; k < many; k++) {
        bytes.setAt(place + k, frame.at(from + k));
        present.setAt(place + k, 1);
      }
    }

    boolean isWhole() {
      if (end == NONE || end > present.length()) return false;
      for (int k = 0; k < end; k++) {
        if (present.at(k) == 0) return false;
      }
      return true;
    }
  }

  /** A host: its addresses, its table, and its datagrams. */
  private static final class Host {
    final int number;
    int mtu;
    final int mss;
    final Row ownName = new Row(1);
    int[] addresses = new int[MOST_HOSTS];
    long[] hardwares = new long[MOST_HOSTS];
    int[] learnedAt = new int[MOST_HOSTS];
    int known;
    final int[] askedAt = new int[MOST_HOSTS];
    final Datagram[] waiting = new Datagram[MOST_WAITING];
    int waitingMany;
    final Datagram[] kept = new Datagram[MOST_KEPT];
    int keptMany;
    int counted;
    int taken;
    int refused;

    Host(int number, int mtu, int mss) {
      this.number = number;
      this.mtu = mtu;
      this.mss = mss;
      for (int k = 0; k < MOST_HOSTS; k++) askedAt[k] = NONE;
      for (int k = 0; k < MOST_WAITING; k++) waiting[k] = new Datagram();
      for (int k = 0; k < MOST_KEPT; k++) kept[k] = new Datagram();
    }

    int placeOf(int address) {
      for (int k = 0; k < known; k++) {
        if (addresses[k] == address) return k;
      }
      return NONE;
    }

    long hardwareAt(int place) {
      return place >= 0 && place < known ? hardwares[place] : 0;
    }

    private void learn(int place, int address, long hardware, int time) {
      if (place < 0 || place > known) return;
      if (place == addresses.length) {
        addresses = Arrays.copyOf(addresses, 2 * place + 1);
        hardwares = Arrays.copyOf(hardwares, 2 * place + 1);
        learnedAt = Arrays.copyOf(learnedAt, 2 * place + 1);
      }
      addresses[place] = address;
      hardwares[place] = hardware;
      learnedAt[place] = time;
      if (place == known) known++;
    }

    /** Drops what has stood in the table, or is being put together, for too long. */
    void dropOld(int time) {
      int left = 0;
      for (int k = 0; k < known; k++) {
        if (time - learnedAt[k] >= TABLE_TICKS) continue;
        addresses[left] = addresses[k];
        hardwares[left] = hardwares[k];
        learnedAt[left] = learnedAt[k];
        left++;
      }
      known = left;
      for (int k = keptMany - 1; k >= 0; k--) {
        if (time - kept[k].time >= KEPT_TICKS) dropKept(k);
      }
    }

    // ---- what is sent

    void post(Datagram datagram, Wire wire) {
      datagram.identification = counted & 65535;
      counted++;
      datagram.mtu = mtu;
      int place = placeOf(datagram.receiver);
      if (place != NONE) {
        sendPieces(datagram, hardwareAt(place), wire);
        return;
      }
      if (waitingMany == MOST_WAITING) dropWaiting(0);
      waiting[waitingMany].copyOf(datagram);
      waitingMany++;
      ask(datagram.receiver, wire);
    }

    private void ask(int address, Wire wire) {
      int other = address - FIRST_ADDRESS;
      if (other < 0 || other >= MOST_HOSTS) return;
      if (askedAt[other] != NONE && wire.time - askedAt[other] < ASK_TICKS) return;
      askedAt[other] = wire.time;
      sendMessage(wire, 1, ALL_HARDWARE, 0, address);
    }

    private void sendMessage(Wire wire, int kind, long to, long hardware, int address) {
      Row bytes = wire.open(number, false).bytes;
      bytes.addHardware(to);
      bytes.addHardware(FIRST_HARDWARE + number);
      bytes.addTwo(ASKING);
      bytes.addTwo(1);
      bytes.addTwo(DATAGRAM);
      bytes.addTwo(0x0604);
      bytes.addTwo(kind);
      bytes.addHardware(FIRST_HARDWARE + number);
      bytes.addFour(FIRST_ADDRESS + number);
      bytes.addHardware(hardware);
      bytes.addFour(address);
    }

    private void sendPieces(Datagram datagram, long hardware, Wire wire) {
      int length = datagram.bytes.length();
      int step = (datagram.mtu - 20) / 8 * 8;
      if (length + 20 <= datagram.mtu || step < 8) {
        sendPart(wire, datagram, hardware, 0, length);
        return;
      }
      for (int place = 0; place < length; place += step) {
        sendPart(wire, datagram, hardware, place, Math.min(step, length - place));
      }
    }

    private void sendPart(Wire wire, Datagram datagram, long hardware, int place, int many) {
      boolean isMore = place + many < datagram.bytes.length();
      Row bytes = wire.open(number, isMore || place > 0).bytes;
      bytes.addHardware(hardware);
      bytes.addHardware(FIRST_HARDWARE + number);
      bytes.addTwo(DATAGRAM);
      bytes.addTwo(0x4500);
      bytes.addTwo(20 + many);
      bytes.addTwo(datagram.identification);
      bytes.addTwo((isMore ? 0x2000 : 0) | place >> 3);
      bytes.addTwo(0x4000 | datagram.protocol);
      bytes.addTwo(0);
      bytes.addFour(datagram.sender);
      bytes.addFour(datagram.receiver);
      bytes.setTwo(24, bytes.sumOver(14, 34, 0));
      bytes.addRow(datagram.bytes, place, many);
    }

    private void dropWaiting(int index) {
      if (index < 0 || index >= waitingMany) return;
      Datagram dropped = waiting[index];
      for (int k = index + 1; k < waitingMany; k++) waiting[k - 1] = waiting[k];
      waitingMany--;
      waiting[waitingMany] = dropped;
    }

    /** Sends what a message of section 3 has set free, then the answer to it. */
    void sendLearned(Frame frame, Wire wire) {
      int address = frame.bytes.fourAt(28);
      int place = placeOf(address);
      if (place != NONE) {
        int many = waitingMany;
        int index = 0;
        for (int k = 0; k < many; k++) {
          if (waiting[index].receiver == address) {
            sendPieces(waiting[index], hardwareAt(place), wire);
            dropWaiting(index);
          } else {
            index++;
          }
        }
      }
      if (frame.bytes.twoAt(20) == 1 && frame.bytes.fourAt(38) == FIRST_ADDRESS + number) {
        long sender = frame.bytes.hardwareAt(22);
        sendMessage(wire, 2, sender, sender, address);
      }
    }

    // ---- what comes in

    int takeFrame(Frame frame, int time, Datagram arrived) {
      Row bytes = frame.bytes;
      int kind = bytes.twoAt(12);
      if (kind == ASKING && isMessage(bytes)) {
        takeMessage(bytes, time);
        return TAKEN_MESSAGE;
      }
      if (kind == DATAGRAM && isDatagram(bytes)) {
        boolean isWhole = takeDatagram(bytes, time, arrived);
        arrived.isSpoilt = frame.isSpoilt && frame.spoiltAt >= 14;
        return isWhole ? TAKEN_DATAGRAM : TAKEN_NOTHING;
      }
      refused++;
      return TAKEN_NOTHING;
    }

    private static boolean isMessage(Row bytes) {
      int kind = bytes.twoAt(20);
      return bytes.length() == 42 && bytes.fourAt(14) == 0x00010800 && bytes.twoAt(18) == 0x0604
          && (kind == 1 || kind == 2);
    }

    private void takeMessage(Row bytes, int time) {
      int address = bytes.fourAt(28);
      int place = placeOf(address);
      boolean isToThis = bytes.fourAt(38) == FIRST_ADDRESS + number;
      if (place != NONE) learn(place, address, bytes.hardwareAt(22), time);
      else if (isToThis) learn(known, address, bytes.hardwareAt(22), time);
    }

    private boolean isDatagram(Row bytes) {
      int carried = bytes.length() - 14;
      int length = bytes.twoAt(16);
      return carried >= 20 && bytes.at(14) == 0x45 && length >= 20 && length <= carried
          && bytes.sumOver(14, 34, 0) == 0 && bytes.fourAt(30) == FIRST_ADDRESS + number;
    }

    /** Takes a datagram or a piece of one; tells whether one that is whole has arrived. */
    private boolean takeDatagram(Row bytes, int time, Datagram arrived) {
      int many = bytes.twoAt(16) - 20;
      int place = (bytes.twoAt(20) & 0x1fff) * 8;
      boolean isMore = (bytes.twoAt(20) & 0x2000) != 0;
      arrived.begin(number, FIRST_ADDRESS + number, bytes.at(23));
      arrived.sender = bytes.fourAt(26);
      arrived.identification = bytes.twoAt(18);
      arrived.time = time;
      if (!isMore && place == 0) {
        arrived.bytes.addRow(bytes, 34, many);
        taken++;
        return true;
      }
      int index = keptPlace(arrived);
      Datagram whole = kept[index];
      whole.putPiece(bytes, 34, many, place);
      if (!isMore) whole.end = place + many;
      if (!whole.isWhole()) return false;
      arrived.bytes.addRow(whole.bytes, 0, whole.end);
      dropKept(index);
      taken++;
      return true;
    }

    /** Finds the datagram that a piece belongs to, or begins it: in the order of their first pieces. */
    private int keptPlace(Datagram piece) {
      for (int k = 0; k < keptMany; k++) {
        Datagram one = kept[k];
        if (one.sender == piece.sender && one.identification == piece.identification
            && one.protocol == piece.protocol) {
          return k;
        }
      }
      if (keptMany == MOST_KEPT) dropKept(0);
      kept[keptMany].copyOf(piece);
      kept[keptMany].time = piece.time;
      keptMany++;
      return keptMany - 1;
    }

    private void dropKept(int index) {
      if (index < 0 || index >= keptMany) return;
      Datagram dropped = kept[index];
      for (int k = index + 1; k < keptMany; k++) kept[k - 1] = kept[k];
      keptMany--;
      kept[keptMany] = dropped;
    }
  }

  /** A segment as it came in. */
  private static final class Segment {
    int sender;
    int receiver;
    int port;
    int toPort;
    int sequence;
    int acknowledgement;
    int flags;
    int window;
    int mss;
    Row bytes = new Row(1);
    int from;
    int many;

    boolean has(int flag) {
      return (flags & flag) != 0;
    }

    boolean isRightIn(Datagram datagram) {
      Row row = datagram.bytes;
      int length = row.length();
      int header = (row.at(12) >> 4) * 4;
      if (length < 20 || header < 20 || header > length) return false;
      if (row.sumOver(0, length, datagram.headSum()) != 0) return false;
      bytes = row;
      sender = datagram.sender;
      receiver = datagram.receiver;
      port = row.twoAt(0);
      toPort = row.twoAt(2);
      sequence = row.fourAt(4);
      acknowledgement = row.fourAt(8);
      flags = row.at(13);
      window = row.twoAt(14);
      from = header;
      many = length - header;
      mss = has(SYN) ? optionIn(row, header) : 536;
      return true;
    }

    private static int optionIn(Row row, int header) {
      int told = 536;
      int place = 20;
      for (int k = 0; k < 40 && place < header; k++) {
        int kind = row.at(place);
        if (kind == 0) return told;
        if (kind == 1) {
          place++;
          continue;
        }
        int length = place + 1 < header ? row.at(place + 1) : 0;
        if (length < 2 || place + length > header) return told;
        if (kind == 2 && length == 4) told = row.twoAt(place + 2);
        place += length;
      }
      return told;
    }
  }

  /** What one end sends on a connection, and the timer of it. */
  private static final class Sender {
    final int iss;
    int una;
    int nxt;
    /** All that was ever written, and on the server's side what is left of an answer behind it. */
    final Row out = new Row(64);
    int wrote;
    int window;
    int windowSequence;
    int windowAcknowledgement;
    int cwnd;
    int threshold = FIRST_THRESHOLD;
    int rto = 10;
    int since;
    int times;
    int doubles;
    boolean isFinSent;
    /** Tells that the timer runs because the other's window is 0, with nothing under way. */
    boolean isProbing;
    int measuredAt = NONE;
    int measuredEnd;
    int smooth = NONE;
    int spread;

    Sender(int number) {
      iss = (int) (4294967096L + 1048583L * number);
      una = iss;
      nxt = iss;
    }

    int underWay() {
      return nxt - una;
    }

    /** How many bytes were sent: SYN and FIN have numbers, but are none. */
    int sentBytes() {
      int many = nxt - iss - 1 - (isFinSent ? 1 : 0);
      return many < 0 ? 0 : many;
    }

    int acknowledgedBytes() {
      int many = una - iss - 1;
      return many < 0 ? 0 : Math.min(many, wrote);
    }

    int unsent() {
      return wrote - sentBytes();
    }

    int room() {
      return MOST_WRITTEN - (wrote - acknowledgedBytes());
    }

    void noteSent(int many, int now) {
      if (una == nxt) since = now;
      nxt += many;
    }

    void noteAcknowledged(int acknowledgement, int mss, int now) {
      una = acknowledgement;
      since = now;
      doubles = 0;
      int more = mss;
      if (cwnd >= threshold) more = cwnd > 0 ? Math.max(1, mss * mss / cwnd) : 1;
      cwnd = Math.min(MOST_CWND, cwnd + more);
      if (measuredAt != NONE && !isAhead(acknowledgement, measuredEnd)) measure(now - measuredAt);
    }

    private void measure(int ticks) {
      measuredAt = NONE;
      if (smooth == NONE) {
        smooth = 8 * ticks;
        spread = 2 * ticks;
      } else {
        int off = ticks - smooth / 8;
        smooth += off;
        spread += Math.abs(off) - spread / 4;
      }
      rto = Math.min(MOST_RTO, Math.max(LEAST_RTO, smooth / 8 + spread));
    }

    void noteWindow(Segment segment) {
      boolean isNewer = isAhead(windowSequence, segment.sequence) || windowSequence == segment.sequence
          && !isAhead(segment.acknowledgement, windowAcknowledgement);
      if (isNewer) tellWindow(segment);
    }

    void tellWindow(Segment segment) {
      window = segment.window;
      windowSequence = segment.sequence;
      windowAcknowledgement = segment.acknowledgement;
    }

    void lowerThreshold(int mss) {
      threshold = Math.max(underWay() / 2, 2 * mss);
    }
  }

  /** What one end has got on a connection. */
  private static final class Receiver {
    int irs;
    int rcv;
    /** All that ever came in order; what was read are the first of it. */
    final Row in = new Row(64);
    int taken;
    boolean hasFin;
    final Row[] pieces = new Row[MOST_PIECES];
    final int[] begins = new int[MOST_PIECES];
    int many;

    Receiver() {
      for (int k = 0; k < MOST_PIECES; k++) pieces[k] = new Row(1);
    }

    void begin(int sequence) {
      irs = sequence;
      rcv = sequence + 1;
    }

    int unread() {
      return in.length - taken;
    }

    int window() {
      return MOST_UNREAD - in.length + taken;
    }

    void takeBytes(Segment segment) {
      int limit = rcv + window();
      int end = segment.sequence + segment.many;
      int begin = isAhead(segment.sequence, rcv) ? rcv : segment.sequence;
      int behind = isAhead(limit, end) ? limit : end;
      int fitting = behind - begin;
      if (fitting <= 0) return;
      int from = segment.from + (begin - segment.sequence);
      if (begin == rcv) {
        in.addRow(segment.bytes, from, fitting);
        rcv += fitting;
        joinPieces();
      } else if (many < MOST_PIECES) {
        pieces[many].empty();
        pieces[many].addRow(segment.bytes, from, fitting);
        begins[many] = begin;
        many++;
      }
    }

    private void joinPieces() {
      for (int k = 0; k < MOST_PIECES && many > 0; k++) {
        int first = firstPiece();
        if (isAhead(rcv, begins[first])) return;
        Row piece = pieces[first];
        int known = rcv - begins[first];
        int more = piece.length() - known;
        if (more > 0) {
          in.addRow(piece, known, more);
          rcv += more;
        }
        many--;
        pieces[first] = pieces[many];
        begins[first] = begins[many];
        pieces[many] = piece;
      }
    }

    private int firstPiece() {
      int first = 0;
      for (int k = 1; k < many; k++) {
        if (begins[first] - begins[k] > 0) first = k;
      }
      return first;
    }
  }

  /** One end of a connection: a client's, or the server's. */
  private static final class Connection {
    final int number;
    final int host;
    final int port;
    final int otherAddress;
    final int otherPort;
    final Wire wire;
    final Sender sender;
    final Receiver receiver = new Receiver();
    /** Only the server reads requests; a client has none. */
    final Reader reader;
    final int ownMss;
    int mss;
    int state;
    int ended;
    int other = NONE;
    boolean isClosed;
    boolean isLast;
    int requests;
    int cameAt;
    int waitFrom;

    Connection(int number, Host own, int otherAddress, int otherPort, Wire wire) {
      this.number = number;
      this.host = own.number;
      this.port = own.number == 0 ? PAGE_PORT : FIRST_CLIENT_PORT + number;
      this.otherAddress = otherAddress;
      this.otherPort = otherPort;
      this.wire = wire;
      this.sender = new Sender(number);
      this.reader = own.number == 0 ? new Reader() : null;
      this.ownMss = own.mss;
      this.mss = own.mss;
    }

    boolean isServers() {
      return host == 0;
    }

    boolean isToBeClosed() {
      return state == SYN_SENT || state == ESTABLISHED || state == CLOSE_WAIT;
    }

    private boolean isSending() {
      return state == ESTABLISHED || state == CLOSE_WAIT || state == FIN_WAIT_1 || state == CLOSING
          || state == LAST_ACK;
    }

    boolean isTimed() {
      return state != CLOSED && (sender.underWay() != 0 || sender.isProbing);
    }

    // ---- beginning and ending

    void beginAsClient() {
      state = SYN_SENT;
      sendNew(SYN, 0);
    }

    void beginAsServer(Segment segment) {
      state = SYN_RECEIVED;
      cameAt = wire.time;
      receiver.begin(segment.sequence);
      sender.tellWindow(segment);
      mss = Math.min(ownMss, segment.mss);
      sendNew(SYN | ACK, 0);
    }

    /** Ends what this end writes; FIN goes when its turn comes. */
    void finish() {
      if (state == SYN_SENT) state = CLOSED;
      if (state == ESTABLISHED) state = FIN_WAIT_1;
      else if (state == CLOSE_WAIT) state = LAST_ACK;
      else return;
      isClosed = true;
    }

    void giveUpAtOnce() {
      emit(RST | ACK, sender.nxt, 0, 0);
      end(ABORTED);
    }

    private void end(int how) {
      state = CLOSED;
      ended = how;
    }

    // ---- sending

    private void emit(int flags, int sequence, int from, int many) {
      Datagram datagram = wire.letter(host, otherAddress, CONNECTIONS);
      Row bytes = datagram.bytes;
      boolean isSyn = (flags & SYN) != 0;
      bytes.addTwo(port);
      bytes.addTwo(otherPort);
      bytes.addFour(sequence);
      bytes.addFour((flags & ACK) != 0 ? receiver.rcv : 0);
      bytes.addTwo((isSyn ? 0x6000 : 0x5000) | flags);
      bytes.addTwo(receiver.window());
      bytes.addFour(0);
      if (isSyn) {
        bytes.addTwo(0x0204);
        bytes.addTwo(ownMss);
      }
      bytes.addRow(sender.out, from, many);
      datagram.closeSegment();
    }

    private int flagsOf(int behind) {
      return behind == sender.wrote ? ACK | PSH : ACK;
    }

    /** Sends what was not sent: SYN, FIN, or so many bytes. */
    private void sendNew(int flags, int many) {
      int from = sender.sentBytes();
      emit(flags, sender.nxt, from, many);
      sender.noteSent(many > 0 ? many : 1, wire.time);
      if (many > 0 && sender.measuredAt == NONE) {
        sender.measuredAt = wire.time;
        sender.measuredEnd = sender.nxt;
      }
    }

    void transmit() {
      if (isSending()) {
        for (int k = 0; k < MOST_WRITTEN; k++) {
          int room = Math.min(sender.window, sender.cwnd) - sender.underWay();
          int many = Math.min(Math.min(sender.unsent(), mss), room);
          if (many <= 0) break;
          sendNew(flagsOf(sender.sentBytes() + many), many);
        }
        if (isClosed && !sender.isFinSent && sender.unsent() == 0) {
          sendNew(FIN | ACK, 0);
          sender.isFinSent = true;
        }
      }
      noteProbing();
    }

    private void noteProbing() {
      boolean isNeeded = isSending() && sender.underWay() == 0 && sender.unsent() > 0 && sender.window == 0;
      if (isNeeded && !sender.isProbing) sender.since = wire.time;
      sender.isProbing = isNeeded;
    }

    private void sendAgain() {
      sender.since = wire.time;
      sender.measuredAt = NONE;
      int from = sender.acknowledgedBytes();
      int many = Math.min(sender.sentBytes() - from, mss);
      if (state == SYN_SENT) {
        emit(SYN, sender.iss, 0, 0);
      } else if (state == SYN_RECEIVED) {
        emit(SYN | ACK, sender.iss, 0, 0);
      } else if (many > 0) {
        emit(flagsOf(from + many), sender.una, from, many);
        wire.sentAgain += many;
      } else if (sender.isFinSent) {
        emit(FIN | ACK, sender.una, 0, 0);
      }
    }

    // ---- time

    void age() {
      if (state == TIME_WAIT && wire.time - waitFrom >= WAIT_TICKS) state = CLOSED;
      if (isTimed() && wire.time - sender.since >= sender.rto) runOut();
      if (isServers() && state != CLOSED && state != TIME_WAIT && wire.time - cameAt >= PATIENCE) giveUpAtOnce();
    }

    private void runOut() {
      if (sender.underWay() == 0) {
        sendNew(flagsOf(sender.sentBytes() + 1), 1);
        noteProbing();
        return;
      }
      sender.times++;
      if (sender.times >= MOST_TIMES) {
        end(GIVEN_UP);
        return;
      }
      sender.rto = Math.min(MOST_RTO, 2 * sender.rto);
      sender.lowerThreshold(mss);
      sender.cwnd = mss;
      sendAgain();
    }

    // ---- what comes in

    /** Looks at a segment; tells whether anything is sent behind it. */
    boolean arrive(Segment segment) {
      cameAt = wire.time;
      if (state == SYN_SENT) return arriveAsked(segment);
      if (segment.has(SYN)) {
        if (state == SYN_RECEIVED && segment.sequence == receiver.irs) sendAgain();
        else emit(ACK, sender.nxt, 0, 0);
        return false;
      }
      if (segment.has(RST)) {
        if (segment.sequence == receiver.rcv) end(RESET);
        return false;
      }
      if (!segment.has(ACK)) return false;
      if (state == SYN_RECEIVED) {
        if (segment.acknowledgement != sender.iss + 1) {
          wire.answerByReset(segment);
          return false;
        }
        establish(segment);
      }
      if (isAhead(sender.nxt, segment.acknowledgement)) {
        emit(ACK, sender.nxt, 0, 0);
        return false;
      }
      if (isThirdDouble(segment)) {
        sendAgain();
        sender.lowerThreshold(mss);
        sender.cwnd = sender.threshold;
      }
      sender.noteWindow(segment);
      if (isEndedByAcknowledgement()) return false;
      takeIn(segment);
      if (segment.many > 0 || segment.has(FIN)) emit(ACK, sender.nxt, 0, 0);
      return true;
    }

    private boolean arriveAsked(Segment segment) {
      if (segment.has(ACK) && segment.acknowledgement != sender.iss + 1) {
        if (!segment.has(RST)) wire.answerByReset(segment);
        return false;
      }
      if (segment.has(RST)) {
        if (segment.has(ACK)) end(REFUSED);
        return false;
      }
      if (!segment.has(SYN) || !segment.has(ACK)) return false;
      receiver.begin(segment.sequence);
      sender.tellWindow(segment);
      mss = Math.min(ownMss, segment.mss);
      establish(segment);
      emit(ACK, sender.nxt, 0, 0);
      return true;
    }

    private void establish(Segment segment) {
      sender.una = segment.acknowledgement;
      sender.times = 0;
      sender.cwnd = mss;
      state = ESTABLISHED;
    }

    /** Looks at the acknowledgement; tells whether it is the third double. */
    private boolean isThirdDouble(Segment segment) {
      int acknowledgement = segment.acknowledgement;
      if (isAhead(acknowledgement, sender.una)) return false;
      sender.times = 0;
      if (acknowledgement != sender.una) {
        sender.noteAcknowledged(acknowledgement, mss, wire.time);
        return false;
      }
      if (segment.many > 0 || segment.has(FIN) || sender.underWay() == 0 || segment.window != sender.window) {
        return false;
      }
      sender.doubles++;
      return sender.doubles == 3;
    }

    /** Goes on to the next state if FIN is acknowledged; tells whether this ended the connection. */
    private boolean isEndedByAcknowledgement() {
      if (!sender.isFinSent || sender.underWay() != 0) return false;
      if (state == FIN_WAIT_1) state = FIN_WAIT_2;
      else if (state == CLOSING) waitOut();
      else if (state == LAST_ACK) {
        state = CLOSED;
        return true;
      }
      return false;
    }

    private void waitOut() {
      state = TIME_WAIT;
      waitFrom = wire.time;
    }

    private void takeIn(Segment segment) {
      if (state == TIME_WAIT && segment.has(FIN)) waitFrom = wire.time;
      if (state != ESTABLISHED && state != FIN_WAIT_1 && state != FIN_WAIT_2) return;
      receiver.takeBytes(segment);
      if (!segment.has(FIN) || segment.sequence + segment.many != receiver.rcv) return;
      receiver.rcv++;
      receiver.hasFin = true;
      if (state == ESTABLISHED) state = CLOSE_WAIT;
      else if (state == FIN_WAIT_1) state = CLOSING;
      else waitOut();
    }

    // ---- writing and reading

    int takeWritten(Row tape) {
      int many = Math.min(sender.room(), tape.length());
      sender.out.addRow(tape, 0, many);
      sender.wrote += many;
      return many;
    }

    boolean hasRest() {
      return sender.wrote < sender.out.length();
    }

    void writeRest() {
      int many = Math.min(sender.room(), sender.out.length() - sender.wrote);
      if (many > 0 && !isClosed) sender.wrote += many;
    }

    int takeUnread(int most) {
      int before = receiver.window();
      int many = Math.min(most, receiver.unread());
      receiver.taken += many;
      if (state != CLOSED && before < LOW_WINDOW && receiver.window() >= LOW_WINDOW) {
        emit(ACK, sender.nxt, 0, 0);
      }
      return many;
    }

    /** The end counts as told as soon as there is nothing ahead of it that was not read, whoever asks. */
    boolean isEndTold() {
      return receiver.hasFin && receiver.unread() == 0;
    }

    int tell(int what) {
      switch (what) {
        case 0: return state;
        case 1: return host;
        case 2: return other;
        case 3: return port;
        case 4: return sender.una - sender.iss;
        case 5: return sender.nxt - sender.iss;
        case 6: return receiver.rcv - receiver.irs;
        case 7: return sender.window;
        case 8: return sender.cwnd;
        case 9: return sender.threshold;
        case 10: return sender.rto;
        case 11: return sender.wrote - sender.acknowledgedBytes();
        case 12: return receiver.unread();
        case 13: return receiver.many;
        case 14: return receiver.taken;
        case 15: return ended;
        case 16: return sender.times;
        case 17: return mss;
        default: return isEndTold() ? 1 : 0;
      }
    }
  }

  /** Reads requests byte by byte. */
  private static final class Reader {
    private static final int METHOD = 0, TARGET = 1, VERSION = 2, FIRST_FEED = 3, START = 4, FIELD = 5, VALUE = 6,
        FIELD_FEED = 7, LAST_FEED = 8, BODY = 9, SIZE = 10, SIZE_FEED = 11, CHUNK = 12, CHUNK_RETURN = 13,
        CHUNK_FEED = 14, END_RETURN = 15, END_FEED = 16;
    private static final int CHUNKED = 1, OTHERWISE = 2, TO_CLOSE = 1, TO_STAY = 2;

    int step;
    int bytes;
    final Row line = new Row(100);
    int lines;
    int mark;
    int method;
    final Row target = new Row(40);
    int version;
    int hostLines;
    int length;
    boolean isLengthWrong;
    int coding;
    int staying;
    /** Values of conditions and ranges behind their colon, so that an empty one is not none. */
    final Row match = new Row(1);
    final Row noneMatch = new Row(1);
    final Row range = new Row(1);
    final Row body = new Row(1);
    int need;
    int digits;

    Reader() {
      length = NONE;
    }

    void begin() {
      step = METHOD;
      bytes = 0;
      line.empty();
      lines = 0;
      mark = 0;
      method = 0;
      target.empty();
      version = 0;
      hostLines = 0;
      length = NONE;
      isLengthWrong = false;
      coding = 0;
      staying = 0;
      match.empty();
      noneMatch.empty();
      range.empty();
      body.empty();
      need = 0;
      digits = 0;
    }

    boolean isLast() {
      return staying == TO_CLOSE || version == 10 && staying != TO_STAY;
    }

    /** Takes a byte; returns 0, WHOLE, or the code of what is wrong. */
    int feed(int value) {
      bytes++;
      if (step >= BODY) return feedBody(value);
      int wrong = wrongInHead(value);
      if (wrong != 0) return wrong;
      if (value == RETURN) {
        step = step == VERSION ? FIRST_FEED : step == VALUE ? FIELD_FEED : LAST_FEED;
        return 0;
      }
      if (value != FEED) {
        stepOn(value);
        return 0;
      }
      if (step == LAST_FEED) return judge();
      if (step == FIRST_FEED) noteVersion();
      else noteField();
      line.empty();
      step = START;
      return 0;
    }

    private int wrongInHead(int value) {
      if (step == START && lines == 8 && value != RETURN) return 431;
      if (!canStand(value)) return 400;
      if (step == TARGET && value != BLANK && target.length() == 40) return 414;
      if (value != RETURN && value != FEED && line.length() == 100) return 431;
      return 0;
    }

    private boolean canStand(int value) {
      boolean isSmall = value >= 'a' && value <= 'z';
      boolean isGreat = value >= 'A' && value <= 'Z';
      boolean isNamed = isSmall || isGreat || value == '-';
      boolean isSeen = value > BLANK && value < 127;
      switch (step) {
        case METHOD: return isGreat || value == BLANK && line.length() > 0;
        case TARGET: return isSeen || value == BLANK && target.length() > 0;
        case VERSION: return isSeen || value == RETURN && line.length() > mark;
        case START: return isNamed || value == RETURN;
        case FIELD: return isNamed || value == ':';
        case VALUE: return isSeen || value == BLANK || value == RETURN;
        default: return value == FEED;
      }
    }

    private void stepOn(int value) {
      if (step == METHOD && value == BLANK) {
        method = methodIn();
        step = TARGET;
      } else if (step == TARGET && value == BLANK) {
        mark = line.length() + 1;
        step = VERSION;
      } else if (step == TARGET) {
        target.add(value);
      } else if (step == START) {
        lines++;
        step = FIELD;
      } else if (step == FIELD && value == ':') {
        mark = line.length();
        step = VALUE;
      }
      line.add(value);
    }

    private int methodIn() {
      int many = line.length();
      if (many == 3 && line.hasText(0, "GET")) return GET;
      if (many == 4 && line.hasText(0, "HEAD")) return HEAD;
      if (many == 3 && line.hasText(0, "PUT")) return PUT;
      if (many == 4 && line.hasText(0, "POST")) return POST;
      if (many == 6 && line.hasText(0, "DELETE")) return DELETE;
      if (many == 7 && line.hasText(0, "OPTIONS")) return OPTIONS;
      return 0;
    }

    private void noteVersion() {
      if (line.length() - mark != 8) return;
      if (line.hasText(mark, "HTTP/1.0")) version = 10;
      if (line.hasText(mark, "HTTP/1.1")) version = 11;
    }

    private void noteField() {
      int from = mark + 1;
      int behind = line.length();
      while (from < behind && line.at(from) == BLANK) from++;
      while (behind > from && line.at(behind - 1) == BLANK) behind--;
      if (line.isWord(0, mark, "host")) hostLines++;
      else if (line.isWord(0, mark, "content-length")) noteLength(line.numberAt(from, behind));
      else if (line.isWord(0, mark, "transfer-encoding")) {
        coding = line.isWord(from, behind, "chunked") ? CHUNKED : OTHERWISE;
      } else if (line.isWord(0, mark, "connection")) {
        staying = line.isWord(from, behind, "close") ? TO_CLOSE
            : line.isWord(from, behind, "keep-alive") ? TO_STAY : 0;
      } else if (line.isWord(0, mark, "if-match")) noteValue(match, from, behind);
      else if (line.isWord(0, mark, "if-none-match")) noteValue(noneMatch, from, behind);
      else if (line.isWord(0, mark, "range")) noteValue(range, from, behind);
    }

    private void noteLength(int number) {
      if (number == NONE || length != NONE && length != number) isLengthWrong = true;
      else length = number;
    }

    private void noteValue(Row value, int from, int behind) {
      value.empty();
      value.add(':');
      value.addRow(line, from, behind - from);
    }

    /** Looks at the whole head, at the end of the empty line. */
    private int judge() {
      if (version == 0) return 505;
      if (method == 0 || coding == OTHERWISE) return 501;
      if (isLengthWrong || length != NONE && coding != 0 || version == 11 && hostLines != 1) return 400;
      if (length > MOST_SIZE) return 413;
      if ((method == PUT || method == POST) && length == NONE && coding == 0) return 411;
      if (coding == CHUNKED) {
        step = SIZE;
        return 0;
      }
      if (length <= 0) return WHOLE;
      need = length;
      step = BODY;
      return 0;
    }

    private int feedBody(int value) {
      switch (step) {
        case BODY:
        case CHUNK:
          body.add(value);
          need--;
          if (need > 0) return 0;
          if (step == BODY) return WHOLE;
          step = CHUNK_RETURN;
          return 0;
        case SIZE: return feedSize(value);
        case SIZE_FEED: return expect(value, FEED, need > 0 ? CHUNK : END_RETURN);
        case CHUNK_RETURN: return expect(value, RETURN, CHUNK_FEED);
        case CHUNK_FEED:
          digits = 0;
          return expect(value, FEED, SIZE);
        case END_RETURN: return expect(value, RETURN, END_FEED);
        default: return value == FEED ? WHOLE : 400;
      }
    }

    private int expect(int value, int due, int next) {
      if (value != due) return 400;
      step = next;
      return 0;
    }

    private int feedSize(int value) {
      if (value == RETURN && digits > 0) {
        if (body.length() + need > MOST_SIZE) return 413;
        step = SIZE_FEED;
        return 0;
      }
      int digit = NONE;
      if (value >= '0' && value <= '9') digit = value - '0';
      else if (value >= 'a' && value <= 'f') digit = value - 'a' + 10;
      else if (value >= 'A' && value <= 'F') digit = value - 'A' + 10;
      if (digit == NONE || digits == 4) return 400;
      need = need * 16 + digit;
      digits++;
      return 0;
    }
  }

  /** Files, and what requests do on them. */
  private static final class House {
    final Row[] names = new Row[MOST_FILES];
    final Row[] contents = new Row[MOST_FILES];
    final int[] versions = new int[MOST_FILES];
    int many;
    int latest;
    private final Row list = new Row(64);
    private final Row tagText = new Row(16);
    /** What the answer is about: the file's or list's tag, the row of the body, the part of it. */
    private int tag;
    private Row source;
    private int from;
    private int behind;

    House() {
      for (int k = 0; k < MOST_FILES; k++) {
        names[k] = new Row(14);
        contents[k] = new Row(1);
      }
      source = list;
    }

    void forget() {
      many = 0;
      latest = 0;
    }

    boolean isLike(House other) {
      if (many != other.many || latest != other.latest) return false;
      for (int k = 0; k < many; k++) {
        Row content = contents[k];
        if (versions[k] != other.versions[k] || names[k].compare(other.names[k]) != 0) return false;
        if (content.length() != other.contents[k].length()) return false;
        if (!content.isSame(0, other.contents[k], 0, content.length())) return false;
      }
      return true;
    }

    /** Does a request that is whole; returns the code of the answer. */
    int perform(Reader request, int told) {
      tag = NONE;
      list.empty();
      source = list;
      from = 0;
      behind = 0;
      if (told != WHOLE) return told;
      Row target = request.target;
      if (request.method == OPTIONS && target.length() == 1 && target.at(0) == '*') return 204;
      if (target.at(0) != '/') return 400;
      boolean isList = target.length() == 1;
      if (!isList && !isFileName(target)) return 404;
      if (request.method == OPTIONS) return 204;
      boolean isAsking = request.method == GET || request.method == HEAD;
      if (isList) return isAsking ? showList() : 405;
      int place = placeOf(target);
      if (isAsking) return show(request, place);
      if (place == NONE && request.method != PUT) return 404;
      int version = place == NONE ? NONE : versions[place];
      if (!isMatched(request.match, version, true) || isMatched(request.noneMatch, version, false)) return 412;
      if (request.method == PUT) return replace(request, place);
      if (request.method == POST) return append(request, place);
      remove(place);
      return 204;
    }

    private static boolean isFileName(Row target) {
      if (target.length() > 13) return false;
      for (int k = 1; k < target.length(); k++) {
        int value = target.at(k);
        boolean isGood = value >= 'a' && value <= 'z' || value >= '0' && value <= '9' || value == '.';
        if (!isGood) return false;
      }
      return true;
    }

    private int placeOf(Row target) {
      for (int k = 0; k < many; k++) {
        if (names[k].compare(target) == 0) return k;
      }
      return NONE;
    }

    /** Tells whether a condition fits a file's version (NONE: no file); without one as it is told. */
    private boolean isMatched(Row condition, int version, boolean without) {
      if (condition.length() == 0) return without;
      if (version == NONE) return false;
      if (condition.length() == 2 && condition.at(1) == '*') return true;
      tagText.empty();
      tagText.addText("\"v");
      tagText.addNumber(version);
      tagText.add('"');
      int length = tagText.length();
      return condition.length() == length + 1 && condition.isSame(1, tagText, 0, length);
    }

    private int showList() {
      for (int k = 0; k < many; k++) {
        list.addRow(names[k], 0, names[k].length());
        list.add(FEED);
      }
      behind = list.length();
      tag = latest;
      return 200;
    }

    private int show(Reader request, int place) {
      if (place < 0 || place >= many) return 404;
      int version = versions[place];
      if (!isMatched(request.match, version, true)) return 412;
      if (isMatched(request.noneMatch, version, false)) {
        tag = version;
        return 304;
      }
      source = contents[place];
      from = 0;
      behind = source.length();
      int code = cutRange(request.range);
      if (code != 416) tag = version;
      return code;
    }

    private int cutRange(Row range) {
      int end = range.length();
      if (!range.hasText(1, "bytes=")) return 200;
      int dash = 7;
      while (dash < end && range.at(dash) != '-') dash++;
      int first = range.numberAt(7, dash);
      int last = range.numberAt(dash + 1, end);
      boolean hasFirst = dash > 7;
      boolean hasLast = end > dash + 1;
      if (dash >= end || !hasFirst && !hasLast) return 200;
      if (hasFirst && first == NONE || hasLast && last == NONE) return 200;
      int size = source.length();
      if (!hasFirst) {
        if (last == 0 || size == 0) return 416;
        from = Math.max(0, size - last);
        return 206;
      }
      if (first >= size || hasLast && last < first) return 416;
      from = first;
      if (hasLast) behind = Math.min(size, last + 1);
      return 206;
    }

    private int replace(Reader request, int place) {
      int at = place;
      if (at == NONE) {
        if (many >= MOST_FILES) return 507;
        at = insert(request.target);
      }
      if (at < 0 || at >= many) return 507;
      contents[at].empty();
      contents[at].addRow(request.body, 0, request.body.length());
      change(at);
      return place == NONE ? 201 : 204;
    }

    private int append(Reader request, int place) {
      if (place < 0 || place >= many) return 404;
      if (contents[place].length() + request.body.length() > MOST_SIZE) return 413;
      contents[place].addRow(request.body, 0, request.body.length());
      change(place);
      return 204;
    }

    private void change(int place) {
      latest++;
      if (place >= 0 && place < many) versions[place] = latest;
      tag = latest;
    }

    /** Makes an empty file at its place by the order of the names; there is room. */
    private int insert(Row target) {
      if (many >= MOST_FILES) return NONE;
      Row freeName = names[many];
      Row freeContent = contents[many];
      int place = many;
      while (place > 0 && names[place - 1].compare(target) > 0) {
        names[place] = names[place - 1];
        contents[place] = contents[place - 1];
        versions[place] = versions[place - 1];
        place--;
      }
      freeName.empty();
      freeName.addRow(target, 0, target.length());
      freeContent.empty();
      names[place] = freeName;
      contents[place] = freeContent;
      many++;
      return place;
    }

    private void remove(int place) {
      if (place < 0 || place >= many) return;
      Row goneName = names[place];
      Row goneContent = contents[place];
      for (int k = place + 1; k < many; k++) {
        names[k - 1] = names[k];
        contents[k - 1] = contents[k];
        versions[k - 1] = versions[k];
      }
      many--;
      names[many] = goneName;
      contents[many] = goneContent;
      latest++;
    }

    /** Writes the answer to what was performed last. */
    void writeAnswer(Reader request, int code, boolean isLast, Row out) {
      String word = wordOf(code);
      out.addText("HTTP/1.1 ");
      out.addNumber(code);
      out.add(BLANK);
      out.addText(word);
      out.addTwo(LINE_END);
      if (code != 204 && code != 304) {
        out.addText("Content-Length: ");
        out.addNumber(code >= 400 ? word.length() : behind - from);
        out.addTwo(LINE_END);
      }
      if (tag != NONE) {
        out.addText("ETag: \"v");
        out.addNumber(tag);
        out.addText("\"\r\n");
      }
      if (code == 206 || code == 416) writeRange(code, out);
      if (code == 405) out.addText("Allow: GET, HEAD, OPTIONS\r\n");
      if (code == 204 && request.method == OPTIONS) {
        out.addText("Allow: GET, HEAD, PUT, POST, DELETE, OPTIONS\r\n");
      }
      if (isLast) out.addText("Connection: close\r\n");
      out.addTwo(LINE_END);
      if (request.method == HEAD) return;
      if (code >= 400) out.addText(word);
      else out.addRow(source, from, behind - from);
    }

    private void writeRange(int code, Row out) {
      if (code == 206) {
        out.addText("Content-Range: bytes ");
        out.addNumber(from);
        out.add('-');
        out.addNumber(behind - 1);
      } else {
        out.addText("Content-Range: bytes *");
      }
      out.add('/');
      out.addNumber(source.length());
      out.addTwo(LINE_END);
    }

    private static String wordOf(int code) {
      switch (code) {
        case 200: return "OK";
        case 201: return "Created";
        case 204: return "No Content";
        case 206: return "Partial Content";
        case 304: return "Not Modified";
        case 400: return "Bad Request";
        case 404: return "Not Found";
        case 405: return "Method Not Allowed";
        case 411: return "Length Required";
        case 412: return "Precondition Failed";
        case 413: return "Content Too Large";
        case 414: return "URI Too Long";
        case 416: return "Range Not Satisfiable";
        case 431: return "Request Header Fields Too Large";
        case 501: return "Not Implemented";
        case 505: return "HTTP Version Not Supported";
        default: return "Insufficient Storage";
      }
    }
  }
}
