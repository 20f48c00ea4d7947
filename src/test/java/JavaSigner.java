import java.security.GeneralSecurityException;
import java.security.KeyFactory;
import java.security.Signature;
import java.security.spec.EdDSAParameterSpec;
import java.security.spec.EdECPrivateKeySpec;
import java.security.spec.NamedParameterSpec;
import java.util.Arrays;

/** Signatures as the Java library makes them, to compare with. */
final class JavaSigner {
    private JavaSigner() {
    }

    static byte[] sign(int curve, byte[] secret, byte[] message, byte[] context, boolean ph)
            throws GeneralSecurityException {
        NamedParameterSpec name = curve == 0 ? NamedParameterSpec.ED25519 : NamedParameterSpec.ED448;
        Signature signature = Signature.getInstance(name.getName());
        signature.setParameter(context.length == 0 ? new EdDSAParameterSpec(ph) : new EdDSAParameterSpec(ph, context));
        byte[] own = Arrays.copyOf(secret, curve == 0 ? 32 : 57);
        signature.initSign(KeyFactory.getInstance(name.getName()).generatePrivate(new EdECPrivateKeySpec(name, own)));
        signature.update(message);
        return signature.sign();
    }
}
