/-! ends of a forbidden line, of minutes that pass -/
section L3
variable {G : mw_G} {b b1 : c_B} {x x1 y : s_T} {w w1 : c_W} {M M1 : mw_M} {T n N : Nat} {t : Int32}
theorem c_forb {a : Nat} {p m : Int32} (ha : a < ct y 29) (hb : ct y 29 < 2 ^ 31) (e23 : cg y 23 a = p) (e24 : cg y 24 a = m) (e5 : ct y 5 = T) (hM : CW G T b (q_closes (q_ends y p m) (-1)).1 M1) : CW G (ct (q_closes (q_ends y p m) (nI a)).1 5) b (q_closes (q_ends y p m) (nI a)).1 M1 := by
  have hh : q_hold (q_ends y p m) (cg (q_ends y p m) 23 a) (cg (q_ends y p m) 24 a) (q_now (q_ends y p m)) (ct (q_ends y p m) 10) = false := by
    have h1 : cg (q_ends y p m) 23 a = p := by unfold q_ends; rw [cg_cf, if_neg (by decide)]; exact e23
    have h2 : cg (q_ends y p m) 24 a = m := by unfold q_ends; rw [cg_cf, if_neg (by decide)]; exact e24
    rw [h1, h2]
    exact q_hold_ends y p m (ct y 10) (Nat.le_refl _)
  have e : q_closes (q_ends y p m) (nI a) = q_closes (q_ends y p m) (-1) := q_close_also (by omega) hh _ (by show ct y 29 ≤ 2 ^ 31; omega)
  rw [e, q_closes_ct (by decide)]
  show CW G (ct y 5) b _ _
  rw [e5]
  exact hM
theorem c_ss5 (h : ct y 5 = n) : ss y 5 n = y := by
  refine s_ext (fun k => ?_) (fun _ _ => rfl)
  rw [ct_ss]
  by_cases hk : k = 5
  · rw [if_pos hk, hk, h]
  · rw [if_neg hk]
theorem q_opn_le (x : s_T) : ∀ n, q_opn x n ≤ n
  | 0 => Nat.le_refl _
  | n + 1 => by
    have ih := q_opn_le x n
    rw [q_opn]
    split <;> omega
theorem c_opn0 (hi : q_inv 512 y) (h : nI (q_opn y (ct y 29)) ≤ 0) : q_opn y (ct y 29) = 0 := by
  have h1 := q_opn_le y (ct y 29)
  have h2 := hi.1.2.2.2.2.2.2.1
  exact Nat.le_zero.mp ((nI_leI (b := 0) (by omega) (by decide)).mp h)
theorem q_tick_cg (x : s_T) {c : Nat} (h25 : c ≠ 25) (h27 : c ≠ 27) (h30 : c ≠ 30) (h31 : c ≠ 31) : ∀ k, cg (q_tick x k).1 c = cg x c
  | 0 => rfl
  | k + 1 => by
    have ih := q_tick_cg x h25 h27 h30 h31 k
    rw [← ih]
    funext i
    exact (q_al_close (ss (q_tick x k).1 5 (ct (q_tick x k).1 5 + 1)) (-1) _).2 c h25 h27 h30 h31 i
theorem c_pass_end (hA : CA G b y w M) (ho : c_ok (ct x 5) b y w) {N9 : Nat} (hi : q_inv N9 x) (h5 : ct x 5 + N ≤ 100000) (hy : ss y 5 (ct x 5 + N) = (q_tick x N).1) :
    CW G (ct (q_lapse (q_tick x N).1) 5) b (q_lapse (q_tick x N).1) (va_up M (b 0 0) (some (.inr (8, [.ref (b 4 0), .ref (b 4 1), .ref (b 4 2), .ref (b 4 3), .ref (b 4 4), .ref (b 4 5), .ref (b 1 0), .int (w.1 4 0), .int (nI (ct x 5 + N))])))) := by
  have hA2 := hA.setNow (ct x 5 + N)
  have ho2 := ho.now (ct x 5 + N)
  rw [hy] at hA2 ho2
  have e5 := q_tick_5 x N
  have e17 := q_tick_ct x (j := 17) (by decide) (by decide) N
  have e14 := q_tick_cg x (c := 14) (by decide) (by decide) (by decide) (by decide) N
  have ho3 := ho2.lapse (T2 := ct x 5 + N) (by omega) e5.symm h5 (fun k hk => by
    rw [e17] at hk
    rw [e14]
    exact (hi.2.2.2.1 k hk).2.2.1)
  have e : ct (q_lapse (q_tick x N).1) 5 = ct x 5 + N := e5
  rw [e]
  exact ⟨w, hA2.free (c := 15) _ (Or.inr (Or.inl rfl)), ho3⟩
end L3
