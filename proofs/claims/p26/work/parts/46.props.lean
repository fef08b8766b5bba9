/-! What is told of seams and counts. -/
section AbProps
variable {h : ab_Hp} {f f' f0 : Nat → Nat → Int32} {g g' : Nat → Nat → Option Nat} {l l' : Nat → Nat → Int64} {Q : ab_O → ab_Hp → Prop} {X M b L i n n' tn tn' : Nat} {xs z z' Z Z' : Nat → Int32} {zs zs' : Nat → Nat → Int32} {cs cs' : Nat → Nat} {s : Nat → Nat × Nat} {u5 u6 u7 u8 : Value}
def ab_told (z : Nat → Int32) (s k : Nat) : Int32 := if k < 5 then z (168 + 24 * s + k) else if k = 5 then nI (ab_cnt (fun k => decide (z (168 + 24 * s + (6 + 3 * k + 2)) = z (168 + 24 * s + 3))) (ab_on z s)) else z (168 + 24 * s + 5)
theorem t_ptold {a t k : Nat} (sk : SkState (ab_sh h) g a) (px : PicX f a z) (v : InvZ z) (ht : t < ab_ns z) (hk : k < 7) : wp 19 0 [.ref (a + 21 + 3 * t), .int (nI k)] [] (ab_S h f g l) Q = Q (.inl (some (.int (ab_told z t k)))) (ab_S h f g l) := by
  have hn8 := v.1.2
  obtain ⟨f1, f2, f3, f4, f5, f6⟩ := sk.2.2 t (by omega)
  have ps := px.seam ht
  have ho6 := (v.2.2.1 t ht).2.2.2.2.2
  have hl := ps.len (v.2.2.1 t ht)
  by_cases h5 : k < 5
  · have e : ab_told z t k = ab_sp f (a + 21 + 3 * t) k := by unfold ab_told; rw [if_pos h5]; exact (ps.1 k (by omega)).symm
    rw [e]
    exact t_sprop f2 f4 f3 h5
  · by_cases h6 : k = 5
    · subst h6
      have c3 : f (a + 21 + 3 * t) 4 = z (168 + 24 * t + 3) := ps.1 3 (by omega)
      have e : ab_told z t 5 = nI (ab_cnt (fun k => decide (f (a + 21 + 3 * t + 1 + 1) (3 * k + 2) = f (a + 21 + 3 * t) 4)) (ab_on z t)) := by
        have e2 : ab_told z t 5 = nI (ab_cnt (fun k => decide (z (168 + 24 * t + (6 + 3 * k + 2)) = z (168 + 24 * t + 3))) (ab_on z t)) := rfl
        rw [e2]
        congr 1
        refine ab_cnt_congr (fun k hk => ?_)
        have := ps.2 k 2 hk (by omega)
        rw [← this, c3]
      rw [e]
      exact t_sprop5 f2 f4 f6 f3 f5 hl (by omega)
    · have e6 : k = 6 := by omega
      subst e6
      have e : ab_told z t 6 = f (a + 21 + 3 * t) 5 := (ps.1 5 (by omega)).symm
      rw [e]
      exact t_sprop6 f2
def ab_cn (z : Nat → Int32) (n k : Nat) : Int32 := if k = 11 then nI n else ab_count z k
theorem t_pcounted {k : Nat} (B : PicB (ab_sh h) f g X z n zs tn cs) (hk : k < 12) : wp 73 0 [.ref X, .int (nI k)] [] (ab_S h f g l) Q = Q (.inl (some (.int (ab_cn z n k)))) (ab_S h f g l) := by
  obtain ⟨⟨s0, g0, g1, g2, g3⟩, sk1, sk2, ⟨px, v⟩, ph, pt⟩ := B
  have k1 := sk1.1.1
  have kh := ph.1.1
  have hn := ph.1.2.2.2.1
  by_cases h11 : k = 11
  · subst h11
    simp (disch := first | assumption | exact id rfl | omega | exact ab_dK (by assumption) | exact ab_dL (by assumption) (by omega) | exact ab_dI (by assumption) (by omega) (by omega) | exact ab_dIs (by assumption) (by omega) (by omega) | exact ab_isA_rf _ | exact nI_ne0 (by omega) (by omega) | exact Nat.le_of_ble_eq_true rfl | exact ab_dA (by assumption) (by omega) (by omega) (by omega) | exact id (Or.inl rfl) | exact id (Or.inr rfl) | exact ab_b01 | exact ab_dJ (by assumption) (by omega) (by omega) | exact ab_dI6 (by assumption) (by omega) (by omega) | fail) only [i73_0, i73_1, i73_3, i73_6, i73_7, i73_10, i73_13, i73_16, i73_17, i73_20, i73_21, i73_24, ab_isA_rf, ab_clr_int, ab_clr_ref, ab_clr_null, ab_clr_rf, ab_clr_nov, ab_clr_long, ab_clr_dbl, ab_rf_some, ab_rf_none, ab_hi_S, ab_hr_S, ab_hl_S, ab_sh_S, ab_setI_S, ab_setR_S, ab_setL_S, ab_thr_S, ab_K_ret, ab_K_void, List.length_cons, List.length_nil, Nat.reduceAdd, Nat.reduceMul, ite_not, reduceIte, ab_nadd, ab_nmul, ab_nsub, ab_nclamp, ab_nlt, ab_nle, ab_neq, ab_nlt0, ab_n0lt, ab_nle0, ab_nle00, ab_neq0, ab_nm1, ab_m1n, ab_m1lt, ab_nltm1, ab_nlem1, ab_m1le, ab_m1lt0, ab_0lem1, ab_m1eq0, ab_m1eqm1, ab_ltT, ab_ltF, ab_leT, ab_leF, ab_eqT, ab_eqF, ab_b0, ab_not_true, ab_not_false, ab_u_at, ab_u_ne, ab_u_eq, Nat.add_zero, Nat.zero_add, g2, hn]
    rfl
  · have e : ab_cn z n k = ab_count z k := if_neg h11
    rw [e]
    simp (disch := first | assumption | exact id rfl | omega | exact ab_dK (by assumption) | exact ab_dL (by assumption) (by omega) | exact ab_dI (by assumption) (by omega) (by omega) | exact ab_dIs (by assumption) (by omega) (by omega) | exact ab_isA_rf _ | exact nI_ne0 (by omega) (by omega) | exact Nat.le_of_ble_eq_true rfl | exact ab_dA (by assumption) (by omega) (by omega) (by omega) | exact id (Or.inl rfl) | exact id (Or.inr rfl) | exact ab_b01 | exact ab_dJ (by assumption) (by omega) (by omega) | exact ab_dI6 (by assumption) (by omega) (by omega) | fail) only [i73_0, i73_1, i73_3, i73_6, i73_7, i73_10, i73_13, i73_16, i73_17, i73_20, i73_21, i73_24, ab_isA_rf, ab_clr_int, ab_clr_ref, ab_clr_null, ab_clr_rf, ab_clr_nov, ab_clr_long, ab_clr_dbl, ab_rf_some, ab_rf_none, ab_hi_S, ab_hr_S, ab_hl_S, ab_sh_S, ab_setI_S, ab_setR_S, ab_setL_S, ab_thr_S, ab_K_ret, ab_K_void, List.length_cons, List.length_nil, Nat.reduceAdd, Nat.reduceMul, ite_not, reduceIte, ab_nadd, ab_nmul, ab_nsub, ab_nclamp, ab_nlt, ab_nle, ab_neq, ab_nlt0, ab_n0lt, ab_nle0, ab_nle00, ab_neq0, ab_nm1, ab_m1n, ab_m1lt, ab_nltm1, ab_nlem1, ab_m1le, ab_m1lt0, ab_0lem1, ab_m1eq0, ab_m1eqm1, ab_ltT, ab_ltF, ab_leT, ab_leF, ab_eqT, ab_eqF, ab_b0, ab_not_true, ab_not_false, ab_u_at, ab_u_ne, ab_u_eq, Nat.add_zero, Nat.zero_add, g0, t_scounted (k := k) sk1 px v (by omega)]
end AbProps
