/-! The law: putAll. -/
section AbPuts
variable {h : ab_Hp} {f f' f0 : Nat → Nat → Int32} {g g' : Nat → Nat → Option Nat} {l l' : Nat → Nat → Int64} {Q : ab_O → ab_Hp → Prop} {X M b L i n n' tn tn' : Nat} {xs z z' Z Z' : Nat → Int32} {zs zs' : Nat → Nat → Int32} {cs cs' : Nat → Nat} {s : Nat → Nat × Nat} {u5 u6 u7 u8 : Value}
theorem c_putAll (S : St (ab_sh h) f g X M b L xs z n zs tn cs) (hi : i + 5 ≤ L) (K : LawK h X M b L xs i Q) : wp 170 742 [.ref b, .ref X, .ref M, .ref (M + 6), .int (nI i), u5, u6, u7, u8] [] (ab_S h f g l) Q := by
  sorry
end AbPuts
