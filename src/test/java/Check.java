public final class Check {}
