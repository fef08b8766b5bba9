/-! The object as a whole. -/
section AbBoth
variable {h : ab_Hp} {f f' f0 : Nat → Nat → Int32} {g g' : Nat → Nat → Option Nat} {l l' : Nat → Nat → Int64} {Q : ab_O → ab_Hp → Prop} {X M b L i n n' tn tn' : Nat} {xs z z' Z Z' : Nat → Int32} {zs zs' : Nat → Nat → Int32} {cs cs' : Nat → Nat} {s : Nat → Nat × Nat} {u5 u6 u7 u8 : Value}
theorem PicB.keep (B : PicB s f g X z n zs tn cs) (hf : ∀ b, X ≤ b → b < X + 365 → ∀ j, f' b j = f b j) (hg : ∀ b, X ≤ b → b < X + 365 → ∀ j, g' b j = g b j) : PicB s f' g' X z n zs tn cs := by
  obtain ⟨⟨s0, g0, g1, g2, g3⟩, sk1, sk2, ⟨px, v⟩, ph, pt⟩ := B
  exact ⟨⟨s0, (hg _ (by omega) (by omega) _).trans g0, (hg _ (by omega) (by omega) _).trans g1, (hg _ (by omega) (by omega) _).trans g2, (hg _ (by omega) (by omega) _).trans g3⟩, sk1.same (fun b h1 h2 j => hg b (by omega) (by omega) j), sk2.same (fun b h1 h2 j => hg b (by omega) (by omega) j), ⟨px.same v (fun b h1 h2 j => hf b (by omega) (by omega) j), v⟩, ph.same (fun _ _ _ => rfl) (fun b h1 h2 j => hf b (by omega) (by omega) j) (fun b h1 h2 j => hg b (by omega) (by omega) j), pt.same (fun _ _ _ => rfl) (fun b h1 h2 j => hf b (by omega) (by omega) j) (fun b h1 h2 j => hg b (by omega) (by omega) j)⟩
theorem PicB.now (B : PicB s f g X z n zs tn cs) (p : PicF f (X + 1) f' z') (v' : InvZ z') : PicB s f' g X z' n zs tn cs := by
  obtain ⟨⟨s0, g0, g1, g2, g3⟩, sk1, sk2, ⟨px, v⟩, ph, pt⟩ := B
  exact ⟨⟨s0, g0, g1, g2, g3⟩, sk1, sk2, ⟨p.2.1, v'⟩, ph.same (fun _ _ _ => rfl) (fun b h1 h2 j => p.1 b (by omega) j) (fun _ _ _ _ => rfl), pt.same (fun _ _ _ => rfl) (fun b h1 h2 j => p.1 b (by omega) j) (fun _ _ _ _ => rfl)⟩
theorem PicB.ahd (B : PicB s f g X z n zs tn cs) (hf : ∀ b, b < X + 46 ∨ X + 91 ≤ b → ∀ j, f' b j = f b j) : PicB s f' g X z n zs tn cs := by
  obtain ⟨⟨s0, g0, g1, g2, g3⟩, sk1, sk2, ⟨px, v⟩, ph, pt⟩ := B
  exact ⟨⟨s0, g0, g1, g2, g3⟩, sk1, sk2, ⟨px.same v (fun b h1 h2 j => hf b (by omega) j), v⟩, ph.same (fun _ _ _ => rfl) (fun b h1 h2 j => hf b (by omega) j) (fun _ _ _ _ => rfl), pt.same (fun _ _ _ => rfl) (fun b h1 h2 j => hf b (by omega) j) (fun _ _ _ _ => rfl)⟩
theorem PicB.toF (B : PicB s f g X z n zs tn cs) : PicF f (X + 1) f z := B.2.2.2.1.1.toF B.2.2.2.1.2
theorem PicB.inv (B : PicB s f g X z n zs tn cs) : InvZ z := B.2.2.2.1.2
theorem t_psv (B : PicB (ab_sh h) f g X z n zs tn cs) (hQ : ∀ f' g', PicB (ab_sh h) f' g' X z (pushN n) (pushZ n zs z) tn cs → (∀ b, b < X ∨ X + 365 ≤ b → ∀ j, f' b j = f b j) → (∀ b, b < X ∨ X + 365 ≤ b → ∀ j, g' b j = g b j) → Q (.inl none) (ab_S h f' g' l)) :
    wp 1 0 [.ref (X + 91), .ref (X + 1), ab_nov] [] (ab_S h f g l) Q := by
  obtain ⟨⟨s0, g0, g1, g2, g3⟩, sk1, sk2, ⟨px, v⟩, ph, pt⟩ := B
  refine t_save ph sk1 px v (by omega) (fun f1 g1' p1 q1 q2 => ?_)
  exact hQ f1 g1' ⟨⟨s0, (q2 _ (by omega) _).trans g0, (q2 _ (by omega) _).trans g1, (q2 _ (by omega) _).trans g2, (q2 _ (by omega) _).trans g3⟩, sk1.same (fun b h1 h2 j => q2 b (by omega) j), sk2.same (fun b h1 h2 j => q2 b (by omega) j), ⟨px.same v (fun b h1 h2 j => q1 b (by omega) j), v⟩, p1, pt.same (fun _ _ _ => rfl) (fun b h1 h2 j => q1 b (by omega) j) (fun b h1 h2 j => q2 b (by omega) j)⟩ (fun b hb j => q1 b (by omega) j) (fun b hb j => q2 b (by omega) j)
theorem ab_refl {α : Type} {x : α} : (x = x) = True := eq_true rfl
end AbBoth
