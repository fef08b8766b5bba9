/-! Both sides at one row: the state of the law. -/
def InvT (z : Nat → Int32) : Prop := ∀ j, 168 + 24 * ab_ns z ≤ j → z j = nI 0
def PicM (s : Nat → Nat × Nat) (g : Nat → Nat → Option Nat) (f : Nat → Nat → Int32) (M : Nat) (Z : Nat → Int32) (n : Nat) (zs : Nat → Nat → Int32) (tn : Nat) (cs : Nat → Nat) : Prop := SkM s g M ∧ (∀ j, f (M + 1) j = Z j) ∧ PicS f M n zs ∧ f M 6 = nI tn ∧ ∀ i, i < tn → f (M + 4) i = nI (cs i)
def St (s : Nat → Nat × Nat) (f : Nat → Nat → Int32) (g : Nat → Nat → Option Nat) (X M b L : Nat) (xs : Nat → Int32) (z : Nat → Int32) (n : Nat) (zs : Nat → Nat → Int32) (tn : Nat) (cs : Nat → Nat) : Prop := PicB s f g X z n zs tn cs ∧ PicM s g f M z n zs tn cs ∧ (InvT z ∧ ∀ k, k < n → InvT (zs k)) ∧ (M = X + 365 ∧ s (M + 6) = (2, 1)) ∧ (s b = (6, L) ∧ b < X ∧ L ≤ 2560) ∧ ∀ j, f b j = xs j
def LawK (h : ab_Hp) (X M b L : Nat) (xs : Nat → Int32) (i : Nat) (Q : ab_O → ab_Hp → Prop) : Prop := ∀ (h' : ab_Hp) (f' : Nat → Nat → Int32) (g' : Nat → Nat → Option Nat) (l' : Nat → Nat → Int64) (z' : Nat → Int32) (n' : Nat) (zs' : Nat → Nat → Int32) (tn' : Nat) (cs' : Nat → Nat) (u5 u6 u7 u8 : Value), St (ab_sh h') f' g' X M b L xs z' n' zs' tn' cs' → ab_cc h' ≤ ab_cc h + 1 → ab_sc h' ≤ ab_sc h + 6 → wp 170 23 [.ref b, .ref X, .ref M, .ref (M + 6), .int (nI (i + 5)), u5, u6, u7, u8] [] (ab_S h' f' g' l') Q
section AbBoth
variable {h : ab_Hp} {f f' f0 : Nat → Nat → Int32} {g g' : Nat → Nat → Option Nat} {l l' : Nat → Nat → Int64} {Q : ab_O → ab_Hp → Prop} {X M b L i n n' tn tn' : Nat} {xs z z' Z Z' : Nat → Int32} {zs zs' : Nat → Nat → Int32} {cs cs' : Nat → Nat} {s : Nat → Nat × Nat} {u5 u6 u7 u8 : Value}
theorem LawK.ok (K : LawK h X M b L xs i Q) (S : St (ab_sh h) f' g' X M b L xs z' n' zs' tn' cs') : wp 170 23 [.ref b, .ref X, .ref M, .ref (M + 6), .int (nI (i + 5)), u5, u6, u7, u8] [] (ab_S h f' g' l') Q := K h f' g' l' z' n' zs' tn' cs' u5 u6 u7 u8 S (by omega) (by omega)
theorem LawK.thr (K : LawK h X M b L xs i Q) (S : St (ab_sh h) f' g' X M b L xs z' n' zs' tn' cs') : wp 170 23 [.ref b, .ref X, .ref M, .ref (M + 6), .int (nI (i + 5)), u5, u6, u7, u8] [] (ab_S (ab_thr h) f' g' l') Q := K (ab_thr h) f' g' l' z' n' zs' tn' cs' u5 u6 u7 u8 S (Nat.le_refl _) (Nat.le_refl _)
theorem ab_mr_of {m : Nat} (hz : ∀ j, f m j = Z j) : ab_mr f m Z = f := by
  funext b j
  unfold ab_mr
  by_cases hb : b = m
  · rw [if_pos hb, hb, hz]
  · rw [if_neg hb]
theorem PicB.keep (B : PicB s f g X z n zs tn cs) (hf : ∀ b, X ≤ b → b < X + 365 → ∀ j, f' b j = f b j) (hg : ∀ b, X ≤ b → b < X + 365 → ∀ j, g' b j = g b j) : PicB s f' g' X z n zs tn cs := by
  obtain ⟨⟨s0, g0, g1, g2, g3⟩, sk1, sk2, ⟨px, v⟩, ph, pt⟩ := B
  exact ⟨⟨s0, (hg _ (by omega) (by omega) _).trans g0, (hg _ (by omega) (by omega) _).trans g1, (hg _ (by omega) (by omega) _).trans g2, (hg _ (by omega) (by omega) _).trans g3⟩, sk1.same (fun b h1 h2 j => hg b (by omega) (by omega) j), sk2.same (fun b h1 h2 j => hg b (by omega) (by omega) j), ⟨px.same v (fun b h1 h2 j => hf b (by omega) (by omega) j), v⟩, ph.same (fun _ _ _ => rfl) (fun b h1 h2 j => hf b (by omega) (by omega) j) (fun b h1 h2 j => hg b (by omega) (by omega) j), pt.same (fun _ _ _ => rfl) (fun b h1 h2 j => hf b (by omega) (by omega) j) (fun b h1 h2 j => hg b (by omega) (by omega) j)⟩
/-- the row of now changes -/
theorem PicB.now (B : PicB s f g X z n zs tn cs) (p : PicF f (X + 1) f' z') (v' : InvZ z') : PicB s f' g X z' n zs tn cs := by
  obtain ⟨⟨s0, g0, g1, g2, g3⟩, sk1, sk2, ⟨px, v⟩, ph, pt⟩ := B
  exact ⟨⟨s0, g0, g1, g2, g3⟩, sk1, sk2, ⟨p.2.1, v'⟩, ph.same (fun _ _ _ => rfl) (fun b h1 h2 j => p.1 b (by omega) j) (fun _ _ _ _ => rfl), pt.same (fun _ _ _ => rfl) (fun b h1 h2 j => p.1 b (by omega) j) (fun _ _ _ _ => rfl)⟩
/-- the cells of the look ahead change -/
theorem PicB.ahd (B : PicB s f g X z n zs tn cs) (hf : ∀ b, b < X + 46 ∨ X + 91 ≤ b → ∀ j, f' b j = f b j) : PicB s f' g X z n zs tn cs := by
  obtain ⟨⟨s0, g0, g1, g2, g3⟩, sk1, sk2, ⟨px, v⟩, ph, pt⟩ := B
  exact ⟨⟨s0, g0, g1, g2, g3⟩, sk1, sk2, ⟨px.same v (fun b h1 h2 j => hf b (by omega) j), v⟩, ph.same (fun _ _ _ => rfl) (fun b h1 h2 j => hf b (by omega) j) (fun _ _ _ _ => rfl), pt.same (fun _ _ _ => rfl) (fun b h1 h2 j => hf b (by omega) j) (fun _ _ _ _ => rfl)⟩
theorem PicB.toF (B : PicB s f g X z n zs tn cs) : PicF f (X + 1) f z := B.2.2.2.1.1.toF B.2.2.2.1.2
theorem PicB.inv (B : PicB s f g X z n zs tn cs) : InvZ z := B.2.2.2.1.2
theorem t_psv (B : PicB (ab_sh h) f g X z n zs tn cs) (hQ : ∀ f' g', PicB (ab_sh h) f' g' X z (pushN n) (pushZ n zs z) tn cs → (∀ b, b < X ∨ X + 365 ≤ b → ∀ j, f' b j = f b j) → (∀ b, b < X ∨ X + 365 ≤ b → ∀ j, g' b j = g b j) → Q (.inl none) (ab_S h f' g' l)) :
    wp 1 0 [.ref (X + 91), .ref (X + 1), ab_nov] [] (ab_S h f g l) Q := by
  obtain ⟨⟨s0, g0, g1, g2, g3⟩, sk1, sk2, ⟨px, v⟩, ph, pt⟩ := B
  refine t_save ph sk1 px v (by omega) (fun f1 g1' p1 q1 q2 => ?_)
  exact hQ f1 g1' ⟨⟨s0, (q2 _ (by omega) _).trans g0, (q2 _ (by omega) _).trans g1, (q2 _ (by omega) _).trans g2, (q2 _ (by omega) _).trans g3⟩, sk1.same (fun b h1 h2 j => q2 b (by omega) j), sk2.same (fun b h1 h2 j => q2 b (by omega) j), ⟨px.same v (fun b h1 h2 j => q1 b (by omega) j), v⟩, p1, pt.same (fun _ _ _ => rfl) (fun b h1 h2 j => q1 b (by omega) j) (fun b h1 h2 j => q2 b (by omega) j)⟩ (fun b hb j => q1 b (by omega) j) (fun b hb j => q2 b (by omega) j)
/-- the Model's picture: another row, other numbers that nothing speaks of -/
theorem PicM.upd (p : PicM s g f M Z n zs tn cs) (h1 : ∀ j, f' (M + 1) j = Z' j) (h2 : ∀ j, f' (M + 2) j = f (M + 2) j) (h4 : ∀ j, f' (M + 4) j = f (M + 4) j) (h3 : f' M 3 = f M 3) (h6 : f' M 6 = f M 6) (hg : ∀ j, g' M j = g M j) : PicM s g' f' M Z' n zs tn cs := by
  obtain ⟨⟨s0, g1, g2, g4, g5, g7, sr⟩, mz, ⟨p1, p2, p3⟩, mt, mc⟩ := p
  exact ⟨⟨s0, (hg _).trans g1, (hg _).trans g2, (hg _).trans g4, (hg _).trans g5, (hg _).trans g7, sr⟩, h1, ⟨h3.trans p1, p2, fun k hk j hj => (h2 _).trans (p3 k hk j hj)⟩, h6.trans mt, fun i hi => (h4 _).trans (mc i hi)⟩
theorem PicM.keep (p : PicM s g f M Z n zs tn cs) (hf : ∀ b, M ≤ b → b < M + 6 → ∀ j, f' b j = f b j) (hg : ∀ j, g' M j = g M j) : PicM s g' f' M Z n zs tn cs := p.upd (fun j => (hf _ (by omega) (by omega) j).trans (p.2.1 j)) (fun j => hf _ (by omega) (by omega) j) (fun j => hf _ (by omega) (by omega) j) (hf _ (by omega) (by omega) _) (hf _ (by omega) (by omega) _) hg
theorem PicM.keep0 (p : PicM s g f M Z n zs tn cs) (hf : ∀ b j, b ≠ M ∨ j ≠ 0 → f' b j = f b j) : PicM s g f' M Z n zs tn cs := p.upd (fun j => (hf _ j (by omega)).trans (p.2.1 j)) (fun j => hf _ j (by omega)) (fun j => hf _ j (by omega)) (hf _ _ (by omega)) (hf _ _ (by omega)) (fun _ => rfl)
theorem PicM.mid (p : PicM s g f M Z n zs tn cs) (hf : ∀ b j, M ≤ b → b < M + 6 → b ≠ M ∨ j ≠ 0 → f' b j = f b j) (hg : ∀ j, g' M j = g M j) : PicM s g' f' M Z n zs tn cs := p.upd (fun j => (hf _ j (by omega) (by omega) (by omega)).trans (p.2.1 j)) (fun j => hf _ j (by omega) (by omega) (by omega)) (fun j => hf _ j (by omega) (by omega) (by omega)) (hf _ _ (by omega) (by omega) (by omega)) (hf _ _ (by omega) (by omega) (by omega)) hg
/-- the state after a call, of what both sides left -/
theorem St.fin {F f1 f2 : Nat → Nat → Int32} (B : PicB s f1 g X z' n zs tn cs) (P : PicM s g f2 M z n zs tn cs) (c1 : M = X + 365 ∧ s (M + 6) = (2, 1)) (c2 : s b = (6, L) ∧ b < X ∧ L ≤ 2560) (T : InvT z') (TP : ∀ k, k < n → InvT (zs k)) (hB : ∀ c j, X ≤ c → c < X + 365 → F c j = f1 c j) (hZ : ∀ j, F (M + 1) j = z' j) (hP : ∀ c j, M ≤ c → c < M + 5 → c ≠ M + 1 → c ≠ M + 3 → c ≠ M ∨ j ≠ 0 → F c j = f2 c j) (hx : ∀ j, F b j = xs j) : St s F g X M b L xs z' n zs tn cs :=
  ⟨B.keep (fun c e1 e2 j => hB c j e1 e2) (fun _ _ _ _ => rfl), P.upd hZ (fun j => hP _ j (by omega) (by omega) (by omega) (by omega) (by omega)) (fun j => hP _ j (by omega) (by omega) (by omega) (by omega) (by omega)) (hP _ _ (by omega) (by omega) (by omega) (by omega) (by omega)) (hP _ _ (by omega) (by omega) (by omega) (by omega) (by omega)) (fun _ => rfl), ⟨T, TP⟩, c1, c2, hx⟩
theorem t_msv (P : PicM (ab_sh h) g f M Z n zs tn cs) (hQ : ∀ f', PicM (ab_sh h) g f' M Z (pushN n) (pushZ n zs Z) tn cs → (∀ b j, b ≠ M + 2 → b ≠ M ∨ j ≠ 3 → f' b j = f b j) → Q (.inl none) (ab_S h f' g l)) :
    wp 94 0 [.ref M, ab_nov] [] (ab_S h f g l) Q := by
  obtain ⟨sk, mz, ps, mt, mc⟩ := P
  rw [← ab_mr_of mz]
  refine t_msave sk ps (fun f1 p1 q1 => ?_)
  have hz : ∀ j, f1 (M + 1) j = Z j := fun j => (q1 _ j (by omega) (by omega)).trans (mz j)
  rw [ab_mr_of hz]
  exact hQ f1 ⟨sk, hz, p1, (q1 _ _ (by omega) (by omega)).trans mt, fun i hi => (q1 _ _ (by omega) (by omega)).trans (mc i hi)⟩ q1
theorem InvT.tail (T : InvT z) (t : Tail z z') : InvT z' := by
  have e : ab_ns z' = ab_ns z := ab_ns_same t.1
  exact fun j hj => (t.2 j (by rw [e] at hj; exact hj)).trans (T j (by rw [e] at hj; exact hj))
theorem InvT.push (T : InvT z ∧ ∀ k, k < n → InvT (zs k)) (hn : n ≤ 6) : ∀ k, k < pushN n → InvT (pushZ n zs z k) := by
  intro k hk
  unfold pushN at hk
  unfold pushZ
  by_cases h6 : n = 6
  · rw [if_pos h6] at hk ⊢
    by_cases h5 : k = 5
    · rw [if_pos h5]; exact T.1
    · rw [if_neg h5]; exact T.2 _ (by omega)
  · rw [if_neg h6] at hk ⊢
    by_cases hkn : k = n
    · rw [if_pos hkn]; exact T.1
    · rw [if_neg hkn]; exact T.2 _ (by omega)
theorem ab_nn (x : Int32) : x < 0 ∨ ∃ k, x = nI k ∧ k < 2147483648 := by
  by_cases hx : x < 0
  · exact Or.inl hx
  · have h0 : 0 ≤ x.toInt := by
      have := Int32.not_lt.mp hx
      rw [Int32.le_iff_toInt_le, Int32.toInt_zero] at this
      exact this
    have h1 := Int32.toInt_lt x
    refine Or.inr ⟨x.toInt.toNat, ?_, by omega⟩
    apply Int32.toInt_inj.mp
    rw [nI_toInt (by omega)]
    omega
theorem ab_g0 {x : Int32} (hx : x < 0) : (x < 0) = True := eq_true hx
theorem ab_g1 {x : Int32} (hx : x < 0) : ((0 : Int32) ≤ x) = False := eq_false (Int32.not_le.mpr hx)
theorem ab_g2 {x : Int32} {c : Nat} (hx : x < 0) (hc : c < 2147483648) : (x < nI c) = True := by
  apply eq_true
  rw [Int32.lt_iff_toInt_lt] at hx ⊢
  rw [nI_toInt (by omega)]
  rw [Int32.toInt_zero] at hx
  omega
theorem ab_g3 {x : Int32} {c : Nat} (hx : x < 0) (hc : c < 2147483648) : (nI c ≤ x) = False := eq_false (Int32.not_le.mpr (of_eq_true (ab_g2 hx hc)))
theorem ab_g4 {x : Int32} {c : Nat} (hx : x < 0) (hc : c < 2147483648) : (nI c < x) = False := eq_false (fun h => absurd (Int32.lt_trans h (of_eq_true (ab_g2 hx hc))) Int32.lt_irrefl)
theorem ab_g5 {x : Int32} {c : Nat} (hx : x < 0) (hc : c < 2147483648) : (x ≤ nI c) = True := eq_true (Int32.le_of_lt (of_eq_true (ab_g2 hx hc)))
theorem ab_g6 {x : Int32} {c : Nat} (hx : x < 0) (hc : c < 2147483648) : (x = nI c) = False := eq_false (fun h => absurd (of_eq_true (ab_g2 hx hc)) (by rw [h]; exact Int32.lt_irrefl))
theorem ab_lc0 {x : Int64} : (lg_cmp x x = 0) = True := eq_true ((lg_cmp_eq x x).mpr rfl)
theorem ab_refl {α : Type} {x : α} : (x = x) = True := eq_true rfl
/-- after a throw: the Model's thrown alone has changed -/
theorem St.thrown (S : St (ab_sh h) f g X M b L xs z n zs tn cs) {k : Nat} (hk : k = 0) {x : Int32} : St (ab_sh h) (ab_u f M k x) g X M b L xs z n zs tn cs := by
  subst hk
  obtain ⟨B, P, T, ⟨hM, so⟩, ⟨sb, hbX, hL⟩, hx⟩ := S
  exact ⟨B.keep (fun c c1 c2 j => ab_u_ne (by omega)) (fun _ _ _ _ => rfl), P.keep0 (fun c j hc => ab_u_ne (by omega)), T, ⟨hM, so⟩, ⟨sb, hbX, hL⟩, fun j => (ab_u_ne (by omega)).trans (hx j)⟩
theorem ab_u_row {a k : Nat} {x : Int32} : ab_u f a k x a = upd (f a) k x := by
  funext j
  unfold ab_u upd
  by_cases hj : j = k
  · rw [if_pos ⟨rfl, hj⟩, if_pos hj]
  · rw [if_neg (fun q => hj q.2), if_neg hj]
theorem ab_u_rowN {a k c : Nat} {x : Int32} (hc : c ≠ a) : ab_u f a k x c = f c := by
  funext j
  exact ab_u_ne (Or.inl hc)
end AbBoth
