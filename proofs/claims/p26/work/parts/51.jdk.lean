/-! the JDK's own methods -/
theorem mw_up1 (M : mw_M) (a : Nat) (e f : Option va_E) : va_up (va_up M a e) a f = va_up M a f := by
  funext q
  unfold va_up
  by_cases h : q = a
  · rw [if_pos h, if_pos h]
  · rw [if_neg h, if_neg h, if_neg h]
/-- behind add: the list at a, its array at ea, all else as it was -/
def j_added (G : mw_G) (M : mw_M) (a e q n cap : Nat) (f : Nat → Option Nat) (mc : Int32) (M1 : mw_M) : Prop := ∃ (ea cp : Nat) (g : Nat → Option Nat), M1 a = some (.inr (0, [.int mc, .ref ea, .int (nI (n + 1))])) ∧ M1 ea = some (.inl (G.2.1 2, cp, .inr (.inr (.inr (.inr g))))) ∧ g n = some q ∧ (∀ k, k < n → g k = f k) ∧ n < cp ∧ 10 ≤ cp ∧ cp ≤ 800 ∧ ((ea = e ∧ cap ≠ 0) ∨ M ea = none) ∧ ∀ b, b ≠ a → b ≠ ea → M1 b = M b
theorem j_added_n {G : mw_G} {M : mw_M} {a e q n cap cp r : Nat} {f g : Nat → Option Nat} {mc : Int32} {x y : Option va_E} (hr : M r = none) (hne : a ≠ r) (hb : n < cp ∧ 10 ≤ cp ∧ cp ≤ 800) (hg : ∀ k, k < n → g k = f k) : j_added G M a e q n cap f mc (va_up (va_up (va_up (va_up M r x) a y) r (some (.inl (G.2.1 2, cp, .inr (.inr (.inr (.inr (va_up g n (some q))))))))) a (some (.inr (0, [.int mc, .ref r, .int (nI (n + 1))])))) :=
  ⟨r, cp, va_up g n (some q), va_up_self _ _ _, (va_up_ne _ _ (Ne.symm hne)).trans (va_up_self _ _ _), va_up_self _ _ _, fun k hk => (va_up_ne _ _ (Nat.ne_of_lt hk)).trans (hg k hk), hb.1, hb.2.1, hb.2.2, Or.inr hr, fun b h1 h2 => by rw [va_up_ne _ _ h1, va_up_ne _ _ h2, va_up_ne _ _ h1, va_up_ne _ _ h2]⟩
theorem j_added_o {G : mw_G} {M : mw_M} {a e q n cap : Nat} {f : Nat → Option Nat} {mc : Int32} (hne : a ≠ e) (hn : n < cap) (h10 : 10 ≤ cap) (h8 : cap ≤ 800) : j_added G M a e q n cap f mc (va_up (va_up M e (some (.inl (G.2.1 2, cap, .inr (.inr (.inr (.inr (va_up f n (some q))))))))) a (some (.inr (0, [.int mc, .ref e, .int (nI (n + 1))])))) :=
  ⟨e, cap, va_up f n (some q), va_up_self _ _ _, (va_up_ne _ _ (Ne.symm hne)).trans (va_up_self _ _ _), va_up_self _ _ _, fun k hk => va_up_ne _ _ (Nat.ne_of_lt hk), hn, h10, h8, Or.inl ⟨rfl, by omega⟩, fun b h1 h2 => by rw [va_up_ne _ _ h1, va_up_ne _ _ h2]⟩
theorem j_added_m {G : mw_G} {M : mw_M} {a e q n cap : Nat} {f : Nat → Option Nat} {mc : Int32} {x : va_E} {M1 : mw_M} (h : j_added G (va_up M a (some x)) a e q n cap f mc M1) : j_added G M a e q n cap f mc M1 := by
  obtain ⟨ea, cp, g, h1, h2, h3, h4, h5, h6, h7, h8, h9⟩ := h
  refine ⟨ea, cp, g, h1, h2, h3, h4, h5, h6, h7, h8.imp id (fun z => ?_), fun b hb hc => (h9 b hb hc).trans (va_up_ne _ _ hb)⟩
  by_cases hq : ea = a
  · rw [hq, va_up_self] at z
    cases z
  · rw [va_up_ne _ _ hq] at z
    exact z
theorem j_cpy_lt {f : Nat → Option Nat} {n k : Nat} (h : k < n) : va_cpy f (fun _ => none) 0 0 n k = f k := by
  unfold va_cpy
  rw [if_pos ⟨Nat.zero_le _, by omega⟩, Nat.zero_add, Nat.sub_zero]
theorem j_nl {n : Nat} (h : 2 ≤ n) (h2 : n ≤ 800) : nI n + (if nI 1 < nI (n / 2) then nI (n / 2) else nI 1) = nI (n + n / 2) := by
  by_cases c : 1 < n / 2
  · rw [if_pos (nI_lt c (by omega)), nI_add]
  · have e : n / 2 = 1 := by omega
    rw [if_neg (nI_nlt (by omega) (by omega)), nI_add, e]
theorem j_wit {E : String} {s : State} {mi mj : Nat} (h1 : va_Mi E mi s) (h2 : va_Mi E mj s) : mi = mj := by
  obtain ⟨c, k, a1, a2, a3⟩ := h1
  obtain ⟨c', k', b1, b2, b3⟩ := h2
  cases a1.symm.trans b1
  cases a2.symm.trans b2
  exact Option.some.inj (a3.symm.trans b3)
abbrev rm_Jxa1e45_init_da8c8 : Room := { frames := 1, cells := 0, slots := 0, locals := 24 }
set_option maxHeartbeats 4000000 in
set_option maxRecDepth 100000 in
theorem j_acol {l : Launch} (hfl : l.stackTraces = false) {G : mw_G} {a : Nat} {M : mw_M}  : mw_Met l G yJxa1e45_init_da8c8 (.code yJxa1e45_init_da8c8 cJxa1e45_init_da8c8 1 none) rm_Jxa1e45_init_da8c8 [.ref a] M (mw_pv (fun M1 => M = M1)) := by
  refine mw_of hfl (by decide) (Nat.le_of_ble_eq_true rfl) ?_
  intro zp ze zs zm zb zh zc ls X hin hret hT hl
  have hl : lv_has ls 1 [(0, .ref a)] := hl
  refine lv_aload_n X.1 X.2.1 dJxa1e45_init_da8c8_0 rfl (lv_at hl 0 rfl) ?_
  refine mr_obj /-objinit-/ X kw52 hl.1 (Nat.le_of_ble_eq_true rfl) (Nat.le_of_ble_eq_true rfl) dJxa1e45_init_da8c8_1 ?_
  exact mr_vret X hT hret (⟨rfl, rfl⟩) (Nat.le_of_ble_eq_true rfl) (Nat.le_of_ble_eq_true rfl) dJxa1e45_init_da8c8_4

abbrev rm_Jxc12de_init_da8c8 : Room := { frames := 2, cells := 0, slots := 0, locals := 44 }
set_option maxHeartbeats 4000000 in
set_option maxRecDepth 100000 in
theorem j_alst {l : Launch} (hfl : l.stackTraces = false) {G : mw_G} {a : Nat} {mc n : Int32} {el : Value} {M : mw_M} (he : M a = some (.inr (0, [.int mc, el, .int n]))) : mw_Met l G yJxc12de_init_da8c8 (.code yJxc12de_init_da8c8 cJxc12de_init_da8c8 1 none) rm_Jxc12de_init_da8c8 [.ref a] M (mw_pv (fun M1 => M1 = va_up M a (some (.inr (0, [.int 0, el, .int n]))))) := by
  refine mw_of hfl (by decide) (Nat.le_of_ble_eq_true rfl) ?_
  intro zp ze zs zm zb zh zc ls X hin hret hT hl
  have hl : lv_has ls 1 [(0, .ref a)] := hl
  refine lv_aload_n X.1 X.2.1 dJxc12de_init_da8c8_0 rfl (lv_at hl 0 rfl) ?_
  refine mr_g X hT (fun hT' => mr_runI X hT' cb_RJxc12de_1 kw50 rfl kw51 (j_acol hfl) rfl rfl hl.1 ⟨Nat.le_of_ble_eq_true rfl, Nat.le_of_ble_eq_true rfl⟩ (Nat.le_of_ble_eq_true rfl) dJxc12de_init_da8c8_1 ⟨Nat.le_of_ble_eq_true rfl, Nat.le_of_ble_eq_true rfl⟩) (fun v M1 H locs hp hT => ?_)
  obtain ⟨rfl, rfl⟩ := hp
  refine W.eq (g2 := F0 zm 4 ls _) rfl ?_
  refine lv_aload_n X.1 X.2.1 dJxc12de_init_da8c8_4 rfl (lv_at hl 0 rfl) ?_
  refine lv_iconst X.1 X.2.1 (v := 0) dJxc12de_init_da8c8_5 (by decide) ?_
  refine mr_put X hT fp_RJxc12de_7 (fun h => nomatch h) he rfl rfl (by simp) dJxc12de_init_da8c8_6 (fun H locs hT => ?_)
  exact mr_vret X hT hret (⟨rfl, rfl⟩) (Nat.le_of_ble_eq_true rfl) (Nat.le_of_ble_eq_true rfl) dJxc12de_init_da8c8_9

abbrev rm_Jx4a65c_init_da8c8 : Room := { frames := 3, cells := 0, slots := 0, locals := 64 }
set_option maxHeartbeats 4000000 in
set_option maxRecDepth 100000 in
theorem j_linit {l : Launch} (hfl : l.stackTraces = false) {G : mw_G} {a : Nat} {mc n : Int32} {el : Value} {M : mw_M} (he : M a = some (.inr (0, [.int mc, el, .int n]))) : mw_Met l G yJx4a65c_init_da8c8 (.code yJx4a65c_init_da8c8 cJx4a65c_init_da8c8 1 none) rm_Jx4a65c_init_da8c8 [.ref a] M (mw_pv (fun M1 => M1 a = some (.inr (0, [.int 0, .ref G.2.2, .int n])) ∧ ∀ q, q ≠ a → M1 q = M q)) := by
  refine mw_of hfl (by decide) (Nat.le_of_ble_eq_true rfl) ?_
  intro zp ze zs zm zb zh zc ls X hin hret hT hl
  have hl : lv_has ls 1 [(0, .ref a)] := hl
  refine lv_aload_n X.1 X.2.1 dJx4a65c_init_da8c8_0 rfl (lv_at hl 0 rfl) ?_
  refine mr_g X hT (fun hT' => mr_runI X hT' cb_RJx4a65c_1 kw47 rfl kw48 (j_alst hfl he) rfl rfl hl.1 ⟨Nat.le_of_ble_eq_true rfl, Nat.le_of_ble_eq_true rfl⟩ (Nat.le_of_ble_eq_true rfl) dJx4a65c_init_da8c8_1 ⟨Nat.le_of_ble_eq_true rfl, Nat.le_of_ble_eq_true rfl⟩) (fun v M1 H locs hp hT => ?_)
  obtain ⟨rfl, rfl⟩ := hp
  refine W.eq (g2 := F0 zm 4 ls _) rfl ?_
  refine lv_aload_n X.1 X.2.1 dJx4a65c_init_da8c8_4 rfl (lv_at hl 0 rfl) ?_
  refine mr_gets X hT kw53 dJx4a65c_init_da8c8_5 ?_
  refine mr_put X hT fp_RJx4a65c_9 (fun h => nomatch h) (va_up_self _ _ _) rfl rfl (by simp) dJx4a65c_init_da8c8_8 (fun H locs hT => ?_)
  exact mr_vret X hT hret (⟨rfl, va_up_self _ _ _, fun q hq => by rw [va_up_ne _ _ hq, va_up_ne _ _ hq]⟩) (Nat.le_of_ble_eq_true rfl) (Nat.le_of_ble_eq_true rfl) dJx4a65c_init_da8c8_11

abbrev rm_Jx4a65c_size_8abf5 : Room := { frames := 0, cells := 0, slots := 0, locals := 0 }
set_option maxHeartbeats 4000000 in
set_option maxRecDepth 100000 in
theorem j_size {l : Launch} (hfl : l.stackTraces = false) {G : mw_G} {a : Nat} {mc n : Int32} {el : Value} {M : mw_M} (he : M a = some (.inr (0, [.int mc, el, .int n]))) : mw_Met l G yJx4a65c_size_8abf5 (.code yJx4a65c_size_8abf5 cJx4a65c_size_8abf5 1 (some .int)) rm_Jx4a65c_size_8abf5 [.ref a] M (mw_pi (fun r M1 => r = n ∧ M = M1)) := by
  refine mw_of hfl (by decide) (Nat.le_of_ble_eq_true rfl) ?_
  intro zp ze zs zm zb zh zc ls X hin hret hT hl
  have hl : lv_has ls 1 [(0, .ref a)] := hl
  refine lv_aload_n X.1 X.2.1 dJx4a65c_size_8abf5_0 rfl (lv_at hl 0 rfl) ?_
  refine mr_get X hT fl_RJx4a65c_48 he rfl dJx4a65c_size_8abf5_1 ?_
  exact mr_iret X hT hret (⟨_, rfl, rfl, rfl⟩) (Nat.le_of_ble_eq_true rfl) (Nat.le_of_ble_eq_true rfl) dJx4a65c_size_8abf5_4

abbrev rm_J3_checkIndex_8e157 : Room := { frames := 0, cells := 0, slots := 0, locals := 0 }
set_option maxHeartbeats 4000000 in
set_option maxRecDepth 100000 in
theorem j_chk3 {l : Launch} (hfl : l.stackTraces = false) {G : mw_G} {i n : Nat} {M : mw_M} (hi : i < n) (hn : n < 2 ^ 31) : mw_Met l G yJ3_checkIndex_8e157 (.code yJ3_checkIndex_8e157 cJ3_checkIndex_8e157 3 (some .int)) rm_J3_checkIndex_8e157 [.int (nI i), .int (nI n), .null] M (mw_pi (fun r M1 => r = nI i ∧ M = M1)) := by
  refine mw_of hfl (by decide) (Nat.le_of_ble_eq_true rfl) ?_
  intro zp ze zs zm zb zh zc ls X hin hret hT hl
  have hl : lv_has ls 3 [(0, .int (nI i)), (1, .int (nI n)), (2, .null)] := hl
  refine lv_iload_n X.1 X.2.1 dJ3_checkIndex_8e157_0 rfl (lv_at hl 0 rfl) ?_
  refine lv_if_lt X.1 X.2.1 (tgt := 9) dJ3_checkIndex_8e157_1 (by decide) (fun c1 => ?_) (fun c1 => ?_)
  · exact absurd c1 (nI_pos (by omega))
  · skip
    refine lv_iload_n X.1 X.2.1 dJ3_checkIndex_8e157_4 rfl (lv_at hl 0 rfl) ?_
    refine lv_iload_n X.1 X.2.1 dJ3_checkIndex_8e157_5 rfl (lv_at hl 1 rfl) ?_
    refine lv_icmp_lt X.1 X.2.1 (tgt := 16) dJ3_checkIndex_8e157_6 (by decide) (fun c6 => ?_) (fun c6 => ?_)
    · skip
      refine lv_iload_n X.1 X.2.1 dJ3_checkIndex_8e157_16 rfl (lv_at hl 0 rfl) ?_
      exact mr_iret X hT hret (⟨_, rfl, rfl, rfl⟩) (Nat.le_of_ble_eq_true rfl) (Nat.le_of_ble_eq_true rfl) dJ3_checkIndex_8e157_17
    · exact absurd (nI_lt hi hn) c6

abbrev rm_J15_checkIndex_7cf53 : Room := { frames := 1, cells := 0, slots := 0, locals := 22 }
set_option maxHeartbeats 4000000 in
set_option maxRecDepth 100000 in
theorem j_chk {l : Launch} (hfl : l.stackTraces = false) {G : mw_G} {i n : Nat} {M : mw_M} (hi : i < n) (hn : n < 2 ^ 31) : mw_Met l G yJ15_checkIndex_7cf53 (.code yJ15_checkIndex_7cf53 cJ15_checkIndex_7cf53 2 (some .int)) rm_J15_checkIndex_7cf53 [.int (nI i), .int (nI n)] M (mw_pi (fun r M1 => r = nI i ∧ M = M1)) := by
  refine mw_of hfl (by decide) (Nat.le_of_ble_eq_true rfl) ?_
  intro zp ze zs zm zb zh zc ls X hin hret hT hl
  have hl : lv_has ls 2 [(0, .int (nI i)), (1, .int (nI n))] := hl
  refine lv_iload_n X.1 X.2.1 dJ15_checkIndex_7cf53_0 rfl (lv_at hl 0 rfl) ?_
  refine lv_iload_n X.1 X.2.1 dJ15_checkIndex_7cf53_1 rfl (lv_at hl 1 rfl) ?_
  refine lv_null X.1 X.2.1 dJ15_checkIndex_7cf53_2 ?_
  refine mr_g X hT (fun hT' => mr_runS X hT' cb_RJ15_105 kw324 kw325 (j_chk3 hfl hi hn) rfl rfl hl.1 ⟨Nat.le_of_ble_eq_true rfl, Nat.le_of_ble_eq_true rfl⟩ (Nat.le_of_ble_eq_true rfl) dJ15_checkIndex_7cf53_3 ⟨Nat.le_of_ble_eq_true rfl, Nat.le_of_ble_eq_true rfl⟩) (fun v M1 H locs hp hT => ?_)
  obtain ⟨r, rfl, rfl, rfl⟩ := hp
  refine W.eq (g2 := F0 zm 6 ls (.int _ :: _)) rfl ?_
  exact mr_iret X hT hret (⟨_, rfl, rfl, rfl⟩) (Nat.le_of_ble_eq_true rfl) (Nat.le_of_ble_eq_true rfl) dJ15_checkIndex_7cf53_6

abbrev rm_Jx4a65c_elementData_915e3 : Room := { frames := 0, cells := 0, slots := 0, locals := 0 }
set_option maxHeartbeats 4000000 in
set_option maxRecDepth 100000 in
theorem j_elem {l : Launch} (hfl : l.stackTraces = false) {G : mw_G} {a e cap j q : Nat} {mc n : Int32} {f : Nat → Option Nat} {M : mw_M} (he : M a = some (.inr (0, [.int mc, .ref e, .int n]))) (hf : M e = some (.inl (G.2.1 2, cap, .inr (.inr (.inr (.inr f)))))) (hj : j < cap) (hcap : cap < 2 ^ 31) (hq : f j = some q) : mw_Met l G yJx4a65c_elementData_915e3 (.code yJx4a65c_elementData_915e3 cJx4a65c_elementData_915e3 2 (some (.object "java/lang/Object"))) rm_Jx4a65c_elementData_915e3 [.ref a, .int (nI j)] M (mw_pr (fun r M1 => r = q ∧ M = M1)) := by
  refine mw_of hfl (by decide) (Nat.le_of_ble_eq_true rfl) ?_
  intro zp ze zs zm zb zh zc ls X hin hret hT hl
  have hl : lv_has ls 2 [(0, .ref a), (1, .int (nI j))] := hl
  refine lv_aload_n X.1 X.2.1 dJx4a65c_elementData_915e3_0 rfl (lv_at hl 0 rfl) ?_
  refine mr_get X hT fl_RJx4a65c_9 he rfl dJx4a65c_elementData_915e3_1 ?_
  refine lv_iload_n X.1 X.2.1 dJx4a65c_elementData_915e3_4 rfl (lv_at hl 1 rfl) ?_
  refine mr_aaldR X hT hf hj hcap hq dJx4a65c_elementData_915e3_5 ?_
  exact mr_aret X hT hret (by first | exact Or.inl ⟨_, rfl⟩ | exact Or.inr ⟨_, rfl⟩) (⟨_, rfl, rfl, rfl⟩) (Nat.le_of_ble_eq_true rfl) (Nat.le_of_ble_eq_true rfl) dJx4a65c_elementData_915e3_6

abbrev rm_Jx4a65c_get_915e3 : Room := { frames := 2, cells := 0, slots := 0, locals := 43 }
set_option maxHeartbeats 4000000 in
set_option maxRecDepth 100000 in
theorem j_get {l : Launch} (hfl : l.stackTraces = false) {G : mw_G} {a e cap j n q : Nat} {mc : Int32} {f : Nat → Option Nat} {M : mw_M} (he : M a = some (.inr (0, [.int mc, .ref e, .int (nI n)]))) (hf : M e = some (.inl (G.2.1 2, cap, .inr (.inr (.inr (.inr f)))))) (hj : j < n) (hn : n ≤ cap) (hcap : cap < 2 ^ 31) (hq : f j = some q) : mw_Met l G yJx4a65c_get_915e3 (.code yJx4a65c_get_915e3 cJx4a65c_get_915e3 2 (some (.object "java/lang/Object"))) rm_Jx4a65c_get_915e3 [.ref a, .int (nI j)] M (mw_pr (fun r M1 => r = q ∧ M = M1)) := by
  refine mw_of hfl (by decide) (Nat.le_of_ble_eq_true rfl) ?_
  intro zp ze zs zm zb zh zc ls X hin hret hT hl
  have hl : lv_has ls 2 [(0, .ref a), (1, .int (nI j))] := hl
  refine lv_iload_n X.1 X.2.1 dJx4a65c_get_915e3_0 rfl (lv_at hl 1 rfl) ?_
  refine lv_aload_n X.1 X.2.1 dJx4a65c_get_915e3_1 rfl (lv_at hl 0 rfl) ?_
  refine mr_get X hT fl_RJx4a65c_48 he rfl dJx4a65c_get_915e3_2 ?_
  refine mr_g X hT (fun hT' => mr_runS X hT' cb_RJx4a65c_118 kw321 kw322 (j_chk hfl hj (by omega)) rfl rfl hl.1 ⟨Nat.le_of_ble_eq_true rfl, Nat.le_of_ble_eq_true rfl⟩ (Nat.le_of_ble_eq_true rfl) dJx4a65c_get_915e3_5 ⟨Nat.le_of_ble_eq_true rfl, Nat.le_of_ble_eq_true rfl⟩) (fun v M1 H locs hp hT => ?_)
  obtain ⟨r, rfl, rfl, rfl⟩ := hp
  refine W.eq (g2 := F0 zm 8 ls (.int _ :: _)) rfl ?_
  refine lv_pop X.1 X.2.1 dJx4a65c_get_915e3_8 rfl ?_
  refine lv_aload_n X.1 X.2.1 dJx4a65c_get_915e3_9 rfl (lv_at hl 0 rfl) ?_
  refine lv_iload_n X.1 X.2.1 dJx4a65c_get_915e3_10 rfl (lv_at hl 1 rfl) ?_
  refine mr_g X hT (fun hT' => mr_runV X hT' cb_RJx4a65c_123 kw327 kw328 kw329 (j_elem hfl he hf (by omega) hcap hq) (mr_cell X hT he rfl) rfl rfl hl.1 ⟨Nat.le_of_ble_eq_true rfl, Nat.le_of_ble_eq_true rfl⟩ (Nat.le_of_ble_eq_true rfl) dJx4a65c_get_915e3_11 ⟨Nat.le_of_ble_eq_true rfl, Nat.le_of_ble_eq_true rfl⟩) (fun v M1 H locs hp hT => ?_)
  obtain ⟨r, rfl, rfl, rfl⟩ := hp
  refine W.eq (g2 := F0 zm 14 ls (.ref _ :: _)) rfl ?_
  exact mr_aret X hT hret (by first | exact Or.inl ⟨_, rfl⟩ | exact Or.inr ⟨_, rfl⟩) (⟨_, rfl, rfl, rfl⟩) (Nat.le_of_ble_eq_true rfl) (Nat.le_of_ble_eq_true rfl) dJx4a65c_get_915e3_14

abbrev rm_J8_newLength_cabcc : Room := { frames := 1, cells := 0, slots := 0, locals := 60 }
set_option maxHeartbeats 4000000 in
set_option maxRecDepth 100000 in
theorem j_nlen {l : Launch} (hfl : l.stackTraces = false) {G : mw_G} {n g : Nat} {M : mw_M} (hn : 2 ≤ n) (hn2 : n ≤ 800) (hg : g = n / 2) : mw_Met l G yJ8_newLength_cabcc (.code yJ8_newLength_cabcc cJ8_newLength_cabcc 4 (some .int)) rm_J8_newLength_cabcc [.int (nI n), .int (nI 1), .int (nI g)] M (mw_pi (fun r M1 => r = nI (n + n / 2) ∧ M = M1)) := by
  refine mw_of hfl (by decide) (Nat.le_of_ble_eq_true rfl) ?_
  intro zp ze zs zm zb zh zc ls X hin hret hT hl
  have hl : lv_has ls 4 [(0, .int (nI n)), (1, .int (nI 1)), (2, .int (nI g))] := hl
  refine lv_iload_n X.1 X.2.1 dJ8_newLength_cabcc_0 rfl (lv_at hl 0 rfl) ?_
  refine lv_iload_n X.1 X.2.1 dJ8_newLength_cabcc_1 rfl (lv_at hl 1 rfl) ?_
  refine lv_iload_n X.1 X.2.1 dJ8_newLength_cabcc_2 rfl (lv_at hl 2 rfl) ?_
  refine va_mmax X.1 X.2.1 (X.2.2.1.trans hl.1.symm) X.2.2.2.1 (mw_use X.2.2.2.2.1.1 kw252 rfl) (mw_use X.2.2.2.2.1.1 kw253 rfl) (mw_use X.2.2.2.2.1.1 kw13 rfl) (mw_use X.2.2.2.2.1.1 kw254 rfl) (Nat.le_of_ble_eq_true rfl) (Nat.le_of_ble_eq_true rfl) (Nat.le_of_ble_eq_true rfl) (Nat.le_of_ble_eq_true rfl) dJ8_newLength_cabcc_3 ?_
  refine lv_iadd X.1 X.2.1 dJ8_newLength_cabcc_6 ?_
  refine mm_top (w := nI (n + n / 2)) (by subst hg; exact j_nl hn hn2) ?_
  refine lv_istore_n X.1 X.2.1 dJ8_newLength_cabcc_7 rfl hl (by decide) rfl (fun ls hl => ?_)
  refine lv_iconst X.1 X.2.1 (v := 0) dJ8_newLength_cabcc_8 (by decide) ?_
  refine lv_iload_n X.1 X.2.1 dJ8_newLength_cabcc_9 rfl (lv_at hl 0 rfl) ?_
  refine lv_icmp_ge X.1 X.2.1 (tgt := 21) dJ8_newLength_cabcc_10 (by decide) (fun c10 => ?_) (fun c10 => ?_)
  · exact absurd c10 (nI_nle (n := n + n / 2) (by omega) (by omega))
  · skip
    refine lv_iload_n X.1 X.2.1 dJ8_newLength_cabcc_13 rfl (lv_at hl 0 rfl) ?_
    refine lv_ldc X.1 X.2.1 (v := 2147483639) X.2.2.2.1 (mw_use X.2.2.2.2.1.1 kw255 rfl) dJ8_newLength_cabcc_14 ?_
    refine lv_icmp_gt X.1 X.2.1 (tgt := 21) dJ8_newLength_cabcc_16 (by decide) (fun c16 => ?_) (fun c16 => ?_)
    · exact absurd c16 (nI_nlt (a := 2147483639) (b := n + n / 2) (by omega) (by decide))
    · skip
      refine lv_iload_n X.1 X.2.1 dJ8_newLength_cabcc_19 rfl (lv_at hl 0 rfl) ?_
      exact mr_iret X hT hret (⟨_, rfl, rfl, rfl⟩) (Nat.le_of_ble_eq_true rfl) (Nat.le_of_ble_eq_true rfl) dJ8_newLength_cabcc_20

abbrev rm_J7_copyOf_6403c : Room := { frames := 1, cells := 1, slots := 1300, locals := 60 }
set_option maxHeartbeats 4000000 in
set_option maxRecDepth 100000 in
theorem j_cpy3 {l : Launch} (hfl : l.stackTraces = false) {G : mw_G} {e cap L : Nat} {f : Nat → Option Nat} {ci : Nat} {C : String} {T : u_T} {N : Nat} {M : mw_M} (hf : M e = some (.inl (G.2.1 2, cap, .inr (.inr (.inr (.inr f)))))) (hcap : cap ≤ L) (hL : L ≤ 1300) (hc : vwCl[ci]? = some (C, T, N)) (hca : Cond.castable C "java/lang/Object" ∈ lw_tbl) (hel : ∀ j, j < cap → ∃ (y : Nat) (fs : List Value), f j = some y ∧ M y = some (.inr (ci, fs))) : mw_Met l G yJ7_copyOf_6403c (.code yJ7_copyOf_6403c cJ7_copyOf_6403c 4 (some (.array (.object "java/lang/Object")))) rm_J7_copyOf_6403c [.ref e, .int (nI L), .ref (G.1.2 99 0)] M (mw_pr (fun r M1 => M r = none ∧ M1 = va_up M r (some (.inl (G.2.1 2, L, .inr (.inr (.inr (.inr (va_cpy f (fun _ => none) 0 0 cap))))))))) := by
  refine mw_of hfl (by decide) (Nat.le_of_ble_eq_true rfl) ?_
  intro zp ze zs zm zb zh zc ls X hin hret hT hl
  have hl : lv_has ls 4 [(0, .ref e), (1, .int (nI L)), (2, .ref (G.1.2 99 0))] := hl
  refine lv_aload_n X.1 X.2.1 dJ7_copyOf_6403c_0 rfl (lv_at hl 2 rfl) ?_
  refine mr_ldcM X kw281 X.2.2.2.2.1.2.2.2.2 dJ7_copyOf_6403c_1 ?_
  refine lv_acmp_ne X.1 X.2.1 (rx := some _) (ry := some _) (tgt := 13) dJ7_copyOf_6403c_3 (by decide) (fun c3 => ?_) (fun c3 => ?_)
  · exact absurd rfl c3
  · skip
    refine lv_iload_n X.1 X.2.1 dJ7_copyOf_6403c_6 rfl (lv_at hl 1 rfl) ?_
    refine mr_newq X hT kw283 (N := L) (nI_pos (by omega)) (nI_clamp (by omega)) (by omega) (by decide) (by show 0 + L ≤ 1300; omega) dJ7_copyOf_6403c_7 (fun q H hq hT => ?_)
    refine W.widen (k := 1) (n := 1300) (Nat.le_of_ble_eq_true rfl) (by omega) ?_
    have hne : e ≠ q := mw_old hf hq
    refine lv_goto X.1 X.2.1 (tgt := 24) dJ7_copyOf_6403c_10 (by decide) ?_
    refine lv_astore_n X.1 X.2.1 dJ7_copyOf_6403c_24 rfl hl (by decide) rfl (fun ls hl => ?_)
    refine lv_aload_n X.1 X.2.1 dJ7_copyOf_6403c_25 rfl (lv_at hl 1 rfl) ?_
    refine lv_iconst X.1 X.2.1 (v := 0) dJ7_copyOf_6403c_26 (by decide) ?_
    refine lv_aload_n X.1 X.2.1 dJ7_copyOf_6403c_27 rfl (lv_at hl 0 rfl) ?_
    refine lv_iconst X.1 X.2.1 (v := 0) dJ7_copyOf_6403c_28 (by decide) ?_
    refine lv_aload_n X.1 X.2.1 dJ7_copyOf_6403c_29 rfl (lv_at hl 1 rfl) ?_
    refine mr_alen X hT (k := 2) ((va_up_ne _ _ hne).trans hf) (by decide) dJ7_copyOf_6403c_30 ?_
    refine lv_iload_n X.1 X.2.1 dJ7_copyOf_6403c_31 rfl (lv_at hl 2 rfl) ?_
    refine va_mmin X.1 X.2.1 (X.2.2.1.trans hl.1.symm) X.2.2.2.1 (mw_use X.2.2.2.2.1.1 kw284 rfl) (mw_use X.2.2.2.2.1.1 kw285 rfl) (mw_use X.2.2.2.2.1.1 kw13 rfl) (mw_use X.2.2.2.2.1.1 kw286 rfl) (Nat.le_of_ble_eq_true rfl) (Nat.le_of_ble_eq_true rfl) (Nat.le_of_ble_eq_true rfl) (Nat.le_of_ble_eq_true rfl) dJ7_copyOf_6403c_32 ?_
    refine mm_top (w := nI cap) (if_neg (nI_nlt hcap (by omega))) ?_
    refine mr_copyq X hT kw287 ((va_up_ne _ _ hne).trans hf) (va_up_self _ _ _) hne (Nat.le_refl _) hcap (by omega) hc hca (fun j hj => (hel j hj).elim fun y h => h.elim fun fs h => ⟨y, fs, h.1, (va_up_ne _ _ (mw_old h.2 hq)).trans h.2⟩) hl.1 (Nat.le_of_ble_eq_true rfl) (Nat.le_of_ble_eq_true rfl) dJ7_copyOf_6403c_35 (fun H locs hT => ?_)
    refine lv_aload_n X.1 X.2.1 dJ7_copyOf_6403c_38 rfl (lv_at hl 0 rfl) ?_
    exact mr_aret X hT hret (by first | exact Or.inl ⟨_, rfl⟩ | exact Or.inr ⟨_, rfl⟩) (⟨_, rfl, hq, mw_up1 _ _ _ _⟩) (Nat.le_of_ble_eq_true rfl) (Nat.le_of_ble_eq_true rfl) dJ7_copyOf_6403c_39

abbrev rm_J7_copyOf_1904c : Room := { frames := 2, cells := 1, slots := 1300, locals := 83 }
set_option maxHeartbeats 4000000 in
set_option maxRecDepth 100000 in
theorem j_cpy2 {l : Launch} (hfl : l.stackTraces = false) {G : mw_G} {e cap L : Nat} {f : Nat → Option Nat} {ci : Nat} {C : String} {T : u_T} {N : Nat} {M : mw_M} (hf : M e = some (.inl (G.2.1 2, cap, .inr (.inr (.inr (.inr f)))))) (hcap : cap ≤ L) (hL : L ≤ 1300) (hc : vwCl[ci]? = some (C, T, N)) (hca : Cond.castable C "java/lang/Object" ∈ lw_tbl) (hel : ∀ j, j < cap → ∃ (y : Nat) (fs : List Value), f j = some y ∧ M y = some (.inr (ci, fs))) : mw_Met l G yJ7_copyOf_1904c (.code yJ7_copyOf_1904c cJ7_copyOf_1904c 2 (some (.array (.object "java/lang/Object")))) rm_J7_copyOf_1904c [.ref e, .int (nI L)] M (mw_pr (fun r M1 => M r = none ∧ M1 = va_up M r (some (.inl (G.2.1 2, L, .inr (.inr (.inr (.inr (va_cpy f (fun _ => none) 0 0 cap))))))))) := by
  refine mw_of hfl (by decide) (Nat.le_of_ble_eq_true rfl) ?_
  intro zp ze zs zm zb zh zc ls X hin hret hT hl
  have hl : lv_has ls 2 [(0, .ref e), (1, .int (nI L))] := hl
  refine lv_aload_n X.1 X.2.1 dJ7_copyOf_1904c_0 rfl (lv_at hl 0 rfl) ?_
  refine lv_iload_n X.1 X.2.1 dJ7_copyOf_1904c_1 rfl (lv_at hl 1 rfl) ?_
  refine lv_aload_n X.1 X.2.1 dJ7_copyOf_1904c_2 rfl (lv_at hl 0 rfl) ?_
  refine mr_getC X hT hf kw262 X.2.2.2.2.1.2.2.2.2 hl.1 (Nat.le_of_ble_eq_true rfl) (Nat.le_of_ble_eq_true rfl) dJ7_copyOf_1904c_3 ?_
  refine mr_g X hT (fun hT' => mr_runS X hT' cb_RJ7_300 kw279 kw280 (j_cpy3 hfl hf hcap hL hc hca hel) rfl rfl hl.1 ⟨Nat.le_of_ble_eq_true rfl, Nat.le_of_ble_eq_true rfl⟩ (Nat.le_of_ble_eq_true rfl) dJ7_copyOf_1904c_6 ⟨Nat.le_of_ble_eq_true rfl, Nat.le_of_ble_eq_true rfl⟩) (fun v M1 H locs hp hT => ?_)
  obtain ⟨r, rfl, hr, rfl⟩ := hp
  refine W.eq (g2 := F0 zm 9 ls (.ref _ :: _)) rfl ?_
  exact mr_aret X hT hret (by first | exact Or.inl ⟨_, rfl⟩ | exact Or.inr ⟨_, rfl⟩) (⟨_, rfl, hr, rfl⟩) (Nat.le_of_ble_eq_true rfl) (Nat.le_of_ble_eq_true rfl) dJ7_copyOf_1904c_9

abbrev rm_Jx4a65c_grow_92f84 : Room := { frames := 3, cells := 1, slots := 1300, locals := 130 }
set_option maxHeartbeats 4000000 in
set_option maxRecDepth 100000 in
theorem j_growA {l : Launch} (hfl : l.stackTraces = false) {G : mw_G} {a : Nat} {mc n : Int32} {M : mw_M} (he : M a = some (.inr (0, [.int mc, .ref G.2.2, .int n]))) : mw_Met l G yJx4a65c_grow_92f84 (.code yJx4a65c_grow_92f84 cJx4a65c_grow_92f84 4 (some (.array (.object "java/lang/Object")))) rm_Jx4a65c_grow_92f84 [.ref a, .int (nI 1)] M (mw_pr (fun r M1 => M r = none ∧ M1 = va_up (va_up M r (some (.inl (G.2.1 2, 10, .inr (.inr (.inr (.inr (fun _ => none)))))))) a (some (.inr (0, [.int mc, .ref r, .int n]))))) := by
  refine mw_of hfl (by decide) (Nat.le_of_ble_eq_true rfl) ?_
  intro zp ze zs zm zb zh zc ls X hin hret hT hl
  have hl : lv_has ls 4 [(0, .ref a), (1, .int (nI 1))] := hl
  refine lv_aload_n X.1 X.2.1 dJx4a65c_grow_92f84_0 rfl (lv_at hl 0 rfl) ?_
  refine mr_get X hT fl_RJx4a65c_9 he rfl dJx4a65c_grow_92f84_1 ?_
  refine mr_alen0 X hT dJx4a65c_grow_92f84_4 ?_
  refine lv_istore_n X.1 X.2.1 dJx4a65c_grow_92f84_5 rfl hl (by decide) rfl (fun ls hl => ?_)
  refine lv_iload_n X.1 X.2.1 dJx4a65c_grow_92f84_6 rfl (lv_at hl 0 rfl) ?_
  refine lv_if_gt X.1 X.2.1 (tgt := 20) dJx4a65c_grow_92f84_7 (by decide) (fun c7 => ?_) (fun c7 => ?_)
  · exact absurd c7 (by decide)
  · skip
    refine lv_aload_n X.1 X.2.1 dJx4a65c_grow_92f84_10 rfl (lv_at hl 1 rfl) ?_
    refine mr_get X hT fl_RJx4a65c_9 he rfl dJx4a65c_grow_92f84_11 ?_
    refine mr_gets X hT kw53 dJx4a65c_grow_92f84_14 ?_
    refine lv_acmp_eq X.1 X.2.1 (rx := some _) (ry := some _) (tgt := 45) dJx4a65c_grow_92f84_17 (by decide) (fun c17 => ?_) (fun c17 => ?_)
    · skip
      refine lv_aload_n X.1 X.2.1 dJx4a65c_grow_92f84_45 rfl (lv_at hl 1 rfl) ?_
      refine lv_bipush X.1 X.2.1 (v := 10) dJx4a65c_grow_92f84_46 (by decide) ?_
      refine lv_iload_n X.1 X.2.1 dJx4a65c_grow_92f84_48 rfl (lv_at hl 2 rfl) ?_
      refine va_mmax X.1 X.2.1 (X.2.2.1.trans hl.1.symm) X.2.2.2.1 (mw_use X.2.2.2.2.1.1 kw290 rfl) (mw_use X.2.2.2.2.1.1 kw253 rfl) (mw_use X.2.2.2.2.1.1 kw13 rfl) (mw_use X.2.2.2.2.1.1 kw254 rfl) (Nat.le_of_ble_eq_true rfl) (Nat.le_of_ble_eq_true rfl) (Nat.le_of_ble_eq_true rfl) (Nat.le_of_ble_eq_true rfl) dJx4a65c_grow_92f84_49 ?_
      refine mm_top (w := nI 10) (if_neg (by decide)) ?_
      refine mr_newq X hT kw291 (N := 10) (nI_pos (by decide)) (nI_clamp (by decide)) (by decide) (by decide) (by decide) dJx4a65c_grow_92f84_52 (fun q H hq hT => ?_)
      have hne : a ≠ q := mw_old he hq
      refine lv_dup_x1 X.1 X.2.1 dJx4a65c_grow_92f84_55 rfl rfl ?_
      refine mr_put X hT fp_RJx4a65c_9 (fun h => nomatch h) ((va_up_ne _ _ hne).trans he) rfl rfl (by simp) dJx4a65c_grow_92f84_56 (fun H locs hT => ?_)
      exact mr_aret X hT hret (by first | exact Or.inl ⟨_, rfl⟩ | exact Or.inr ⟨_, rfl⟩) (⟨_, rfl, hq, rfl⟩) (Nat.le_of_ble_eq_true rfl) (Nat.le_of_ble_eq_true rfl) dJx4a65c_grow_92f84_59
    · exact absurd rfl c17


set_option maxHeartbeats 4000000 in
set_option maxRecDepth 100000 in
theorem j_growB {l : Launch} (hfl : l.stackTraces = false) {G : mw_G} {a e cap : Nat} {mc n : Int32} {f : Nat → Option Nat} {ci : Nat} {C : String} {T : u_T} {N : Nat} {M : mw_M} (he : M a = some (.inr (0, [.int mc, .ref e, .int n]))) (hf : M e = some (.inl (G.2.1 2, cap, .inr (.inr (.inr (.inr f)))))) (h10 : 10 ≤ cap) (h8 : cap ≤ 800) (hc : vwCl[ci]? = some (C, T, N)) (hca : Cond.castable C "java/lang/Object" ∈ lw_tbl) (hel : ∀ j, j < cap → ∃ (y : Nat) (fs : List Value), f j = some y ∧ M y = some (.inr (ci, fs))) : mw_Met l G yJx4a65c_grow_92f84 (.code yJx4a65c_grow_92f84 cJx4a65c_grow_92f84 4 (some (.array (.object "java/lang/Object")))) rm_Jx4a65c_grow_92f84 [.ref a, .int (nI (cap + 1))] M (mw_pr (fun r M1 => M r = none ∧ M1 = va_up (va_up M r (some (.inl (G.2.1 2, (cap + cap / 2), .inr (.inr (.inr (.inr (va_cpy f (fun _ => none) 0 0 cap)))))))) a (some (.inr (0, [.int mc, .ref r, .int n]))))) := by
  refine mw_of hfl (by decide) (Nat.le_of_ble_eq_true rfl) ?_
  intro zp ze zs zm zb zh zc ls X hin hret hT hl
  have hl : lv_has ls 4 [(0, .ref a), (1, .int (nI (cap + 1)))] := hl
  refine lv_aload_n X.1 X.2.1 dJx4a65c_grow_92f84_0 rfl (lv_at hl 0 rfl) ?_
  refine mr_get X hT fl_RJx4a65c_9 he rfl dJx4a65c_grow_92f84_1 ?_
  refine mr_alen X hT (k := 2) hf (by decide) dJx4a65c_grow_92f84_4 ?_
  refine lv_istore_n X.1 X.2.1 dJx4a65c_grow_92f84_5 rfl hl (by decide) rfl (fun ls hl => ?_)
  refine lv_iload_n X.1 X.2.1 dJx4a65c_grow_92f84_6 rfl (lv_at hl 0 rfl) ?_
  refine lv_if_gt X.1 X.2.1 (tgt := 20) dJx4a65c_grow_92f84_7 (by decide) (fun c7 => ?_) (fun c7 => ?_)
  · skip
    refine lv_iload_n X.1 X.2.1 dJx4a65c_grow_92f84_20 rfl (lv_at hl 0 rfl) ?_
    refine lv_iload_n X.1 X.2.1 dJx4a65c_grow_92f84_21 rfl (lv_at hl 2 rfl) ?_
    refine lv_iload_n X.1 X.2.1 dJx4a65c_grow_92f84_22 rfl (lv_at hl 0 rfl) ?_
    refine lv_isub X.1 X.2.1 dJx4a65c_grow_92f84_23 ?_
    refine mm_top (w := nI 1) (by rw [pk_sub (by omega)]; congr 1; omega) ?_
    refine lv_iload_n X.1 X.2.1 dJx4a65c_grow_92f84_24 rfl (lv_at hl 0 rfl) ?_
    refine lv_iconst X.1 X.2.1 (v := 1) dJx4a65c_grow_92f84_25 (by decide) ?_
    refine lv_ishr X.1 X.2.1 dJx4a65c_grow_92f84_26 ?_
    refine mm_top (w := nI (cap / 2)) (pk_shrN (by omega) ((1 : Int32) &&& 31) 1 (by decide)) ?_
    refine mr_g X hT (fun hT' => mr_runS X hT' cb_RJx4a65c_73 kw250 kw251 (j_nlen (n := cap) hfl (by omega) h8 rfl) rfl rfl hl.1 ⟨Nat.le_of_ble_eq_true rfl, Nat.le_of_ble_eq_true rfl⟩ (Nat.le_of_ble_eq_true rfl) dJx4a65c_grow_92f84_27 ⟨Nat.le_of_ble_eq_true rfl, Nat.le_of_ble_eq_true rfl⟩) (fun v M1 H locs hp hT => ?_)
    obtain ⟨r, rfl, rfl, rfl⟩ := hp
    refine W.eq (g2 := F0 zm 30 ls (.int _ :: _)) rfl ?_
    refine lv_istore_n X.1 X.2.1 dJx4a65c_grow_92f84_30 rfl hl (by decide) rfl (fun ls hl => ?_)
    refine lv_aload_n X.1 X.2.1 dJx4a65c_grow_92f84_31 rfl (lv_at hl 2 rfl) ?_
    refine lv_aload_n X.1 X.2.1 dJx4a65c_grow_92f84_32 rfl (lv_at hl 2 rfl) ?_
    refine mr_get X hT fl_RJx4a65c_9 he rfl dJx4a65c_grow_92f84_33 ?_
    refine lv_iload_n X.1 X.2.1 dJx4a65c_grow_92f84_36 rfl (lv_at hl 0 rfl) ?_
    refine mr_g X hT (fun hT' => mr_runS X hT' cb_RJx4a65c_66 kw260 kw261 (j_cpy2 hfl hf (by omega) (by omega) hc hca hel) rfl rfl hl.1 ⟨Nat.le_of_ble_eq_true rfl, Nat.le_of_ble_eq_true rfl⟩ (Nat.le_of_ble_eq_true rfl) dJx4a65c_grow_92f84_37 ⟨Nat.le_of_ble_eq_true rfl, Nat.le_of_ble_eq_true rfl⟩) (fun v M1 H locs hp hT => ?_)
    obtain ⟨r, rfl, hr, rfl⟩ := hp
    refine W.eq (g2 := F0 zm 40 ls (.ref _ :: _)) rfl ?_
    refine lv_dup_x1 X.1 X.2.1 dJx4a65c_grow_92f84_40 rfl rfl ?_
    refine mr_put X hT fp_RJx4a65c_9 (fun h => nomatch h) ((va_up_ne _ _ (mw_old he hr)).trans he) rfl rfl (by simp) dJx4a65c_grow_92f84_41 (fun H locs hT => ?_)
    exact mr_aret X hT hret (by first | exact Or.inl ⟨_, rfl⟩ | exact Or.inr ⟨_, rfl⟩) (⟨_, rfl, hr, rfl⟩) (Nat.le_of_ble_eq_true rfl) (Nat.le_of_ble_eq_true rfl) dJx4a65c_grow_92f84_44
  · exact absurd (nI_lt (show 0 < cap by omega) (by omega)) c7

abbrev rm_Jx4a65c_grow_d5877 : Room := { frames := 4, cells := 1, slots := 1300, locals := 153 }
set_option maxHeartbeats 4000000 in
set_option maxRecDepth 100000 in
theorem j_grA {l : Launch} (hfl : l.stackTraces = false) {G : mw_G} {a : Nat} {mc : Int32} {M : mw_M} (he : M a = some (.inr (0, [.int mc, .ref G.2.2, .int (nI 0)]))) : mw_Met l G yJx4a65c_grow_d5877 (.code yJx4a65c_grow_d5877 cJx4a65c_grow_d5877 1 (some (.array (.object "java/lang/Object")))) rm_Jx4a65c_grow_d5877 [.ref a] M (mw_pr (fun r M1 => M r = none ∧ M1 = va_up (va_up M r (some (.inl (G.2.1 2, 10, .inr (.inr (.inr (.inr (fun _ => none)))))))) a (some (.inr (0, [.int mc, .ref r, .int (nI 0)]))))) := by
  refine mw_of hfl (by decide) (Nat.le_of_ble_eq_true rfl) ?_
  intro zp ze zs zm zb zh zc ls X hin hret hT hl
  have hl : lv_has ls 1 [(0, .ref a)] := hl
  refine lv_aload_n X.1 X.2.1 dJx4a65c_grow_d5877_0 rfl (lv_at hl 0 rfl) ?_
  refine lv_aload_n X.1 X.2.1 dJx4a65c_grow_d5877_1 rfl (lv_at hl 0 rfl) ?_
  refine mr_get X hT fl_RJx4a65c_48 he rfl dJx4a65c_grow_d5877_2 ?_
  refine lv_iconst X.1 X.2.1 (v := 1) dJx4a65c_grow_d5877_5 (by decide) ?_
  refine lv_iadd X.1 X.2.1 dJx4a65c_grow_d5877_6 ?_
  refine mm_top (w := nI 1) (rfl) ?_
  refine mr_g X hT (fun hT' => mr_runV X hT' cb_RJx4a65c_69 kw247 kp3 kw248 (j_growA hfl he) (mr_cell X hT he rfl) rfl rfl hl.1 ⟨Nat.le_of_ble_eq_true rfl, Nat.le_of_ble_eq_true rfl⟩ (Nat.le_of_ble_eq_true rfl) dJx4a65c_grow_d5877_7 ⟨Nat.le_of_ble_eq_true rfl, Nat.le_of_ble_eq_true rfl⟩) (fun v M1 H locs hp hT => ?_)
  obtain ⟨r, rfl, hr, rfl⟩ := hp
  refine W.eq (g2 := F0 zm 10 ls (.ref _ :: _)) rfl ?_
  exact mr_aret X hT hret (by first | exact Or.inl ⟨_, rfl⟩ | exact Or.inr ⟨_, rfl⟩) (⟨_, rfl, hr, rfl⟩) (Nat.le_of_ble_eq_true rfl) (Nat.le_of_ble_eq_true rfl) dJx4a65c_grow_d5877_10


set_option maxHeartbeats 4000000 in
set_option maxRecDepth 100000 in
theorem j_grB {l : Launch} (hfl : l.stackTraces = false) {G : mw_G} {a e cap : Nat} {mc : Int32} {f : Nat → Option Nat} {ci : Nat} {C : String} {T : u_T} {N : Nat} {M : mw_M} (he : M a = some (.inr (0, [.int mc, .ref e, .int (nI cap)]))) (hf : M e = some (.inl (G.2.1 2, cap, .inr (.inr (.inr (.inr f)))))) (h10 : 10 ≤ cap) (h8 : cap ≤ 800) (hc : vwCl[ci]? = some (C, T, N)) (hca : Cond.castable C "java/lang/Object" ∈ lw_tbl) (hel : ∀ j, j < cap → ∃ (y : Nat) (fs : List Value), f j = some y ∧ M y = some (.inr (ci, fs))) : mw_Met l G yJx4a65c_grow_d5877 (.code yJx4a65c_grow_d5877 cJx4a65c_grow_d5877 1 (some (.array (.object "java/lang/Object")))) rm_Jx4a65c_grow_d5877 [.ref a] M (mw_pr (fun r M1 => M r = none ∧ M1 = va_up (va_up M r (some (.inl (G.2.1 2, (cap + cap / 2), .inr (.inr (.inr (.inr (va_cpy f (fun _ => none) 0 0 cap)))))))) a (some (.inr (0, [.int mc, .ref r, .int (nI cap)]))))) := by
  refine mw_of hfl (by decide) (Nat.le_of_ble_eq_true rfl) ?_
  intro zp ze zs zm zb zh zc ls X hin hret hT hl
  have hl : lv_has ls 1 [(0, .ref a)] := hl
  refine lv_aload_n X.1 X.2.1 dJx4a65c_grow_d5877_0 rfl (lv_at hl 0 rfl) ?_
  refine lv_aload_n X.1 X.2.1 dJx4a65c_grow_d5877_1 rfl (lv_at hl 0 rfl) ?_
  refine mr_get X hT fl_RJx4a65c_48 he rfl dJx4a65c_grow_d5877_2 ?_
  refine lv_iconst X.1 X.2.1 (v := 1) dJx4a65c_grow_d5877_5 (by decide) ?_
  refine lv_iadd X.1 X.2.1 dJx4a65c_grow_d5877_6 ?_
  refine mm_top (w := nI (cap + 1)) (nI_1 _) ?_
  refine mr_g X hT (fun hT' => mr_runV X hT' cb_RJx4a65c_69 kw247 kp3 kw248 (j_growB hfl he hf h10 h8 hc hca hel) (mr_cell X hT he rfl) rfl rfl hl.1 ⟨Nat.le_of_ble_eq_true rfl, Nat.le_of_ble_eq_true rfl⟩ (Nat.le_of_ble_eq_true rfl) dJx4a65c_grow_d5877_7 ⟨Nat.le_of_ble_eq_true rfl, Nat.le_of_ble_eq_true rfl⟩) (fun v M1 H locs hp hT => ?_)
  obtain ⟨r, rfl, hr, rfl⟩ := hp
  refine W.eq (g2 := F0 zm 10 ls (.ref _ :: _)) rfl ?_
  exact mr_aret X hT hret (by first | exact Or.inl ⟨_, rfl⟩ | exact Or.inr ⟨_, rfl⟩) (⟨_, rfl, hr, rfl⟩) (Nat.le_of_ble_eq_true rfl) (Nat.le_of_ble_eq_true rfl) dJx4a65c_grow_d5877_10

abbrev rm_Jx4a65c_add_72be8 : Room := { frames := 5, cells := 1, slots := 1300, locals := 180 }
set_option maxHeartbeats 4000000 in
set_option maxRecDepth 100000 in
theorem j_addA {l : Launch} (hfl : l.stackTraces = false) {G : mw_G} {a e q n cap : Nat} {mc : Int32} {f : Nat → Option Nat} {vs : List Value} {ci : Nat} {C : String} {T : u_T} {N : Nat} {M : mw_M} (hqa : q ≠ a) (he : M a = some (.inr (0, [.int mc, .ref e, .int (nI n)]))) (hz : e = G.2.2 ∧ n = 0 ∧ cap = 0) (hq : M q = some (.inr (ci, vs))) (hc : vwCl[ci]? = some (C, T, N)) (hca : Cond.castable C "java/lang/Object" ∈ lw_tbl) : mw_Met l G yJx4a65c_add_72be8 (.code yJx4a65c_add_72be8 cJx4a65c_add_72be8 4 none) rm_Jx4a65c_add_72be8 [.ref a, .ref q, .ref e, .int (nI n)] M (mw_pv (fun M1 => j_added G M a e q n cap f mc M1)) := by
  refine mw_of hfl (by decide) (Nat.le_of_ble_eq_true rfl) ?_
  intro zp ze zs zm zb zh zc ls X hin hret hT hl
  have hl : lv_has ls 4 [(0, .ref a), (1, .ref q), (2, .ref e), (3, .int (nI n))] := hl
  obtain ⟨rfl, rfl, rfl⟩ := hz
  refine lv_iload_n X.1 X.2.1 dJx4a65c_add_72be8_0 rfl (lv_at hl 3 rfl) ?_
  refine lv_aload_n X.1 X.2.1 dJx4a65c_add_72be8_1 rfl (lv_at hl 2 rfl) ?_
  refine mr_alen0 X hT dJx4a65c_add_72be8_2 ?_
  refine lv_icmp_ne X.1 X.2.1 (tgt := 11) dJx4a65c_add_72be8_3 (by decide) (fun c3 => ?_) (fun c3 => ?_)
  · exact absurd rfl c3
  · skip
    refine lv_aload_n X.1 X.2.1 dJx4a65c_add_72be8_6 rfl (lv_at hl 0 rfl) ?_
    refine mr_g X hT (fun hT' => mr_runV X hT' cb_RJx4a65c_129 kw243 kp2 kw244 (j_grA hfl he) (mr_cell X hT he rfl) rfl rfl hl.1 ⟨Nat.le_of_ble_eq_true rfl, Nat.le_of_ble_eq_true rfl⟩ (Nat.le_of_ble_eq_true rfl) dJx4a65c_add_72be8_7 ⟨Nat.le_of_ble_eq_true rfl, Nat.le_of_ble_eq_true rfl⟩) (fun v M1 H locs hp hT => ?_)
    obtain ⟨r, rfl, hr, rfl⟩ := hp
    refine W.eq (g2 := F0 zm 10 ls (.ref _ :: _)) rfl ?_
    refine lv_astore_n X.1 X.2.1 dJx4a65c_add_72be8_10 rfl hl (by decide) rfl (fun ls hl => ?_)
    refine lv_aload_n X.1 X.2.1 dJx4a65c_add_72be8_11 rfl (lv_at hl 0 rfl) ?_
    refine lv_iload_n X.1 X.2.1 dJx4a65c_add_72be8_12 rfl (lv_at hl 3 rfl) ?_
    refine lv_aload_n X.1 X.2.1 dJx4a65c_add_72be8_13 rfl (lv_at hl 2 rfl) ?_
    have hne : a ≠ r := mw_old he hr
    have hnq : q ≠ r := mw_old hq hr
    refine mr_aastR (n := 10) X hT ((va_up_ne _ _ (Ne.symm hne)).trans (va_up_self _ _ _)) hc hca (show (va_up (va_up _ r _) a _ : mw_M) q = some (.inr (ci, vs)) from (va_up_ne _ _ hqa).trans ((va_up_ne _ _ hnq).trans hq)) (by decide) (by decide) dJx4a65c_add_72be8_14 (fun H locs hT => ?_)
    refine lv_aload_n X.1 X.2.1 dJx4a65c_add_72be8_15 rfl (lv_at hl 1 rfl) ?_
    refine lv_iload_n X.1 X.2.1 dJx4a65c_add_72be8_16 rfl (lv_at hl 3 rfl) ?_
    refine lv_iconst X.1 X.2.1 (v := 1) dJx4a65c_add_72be8_17 (by decide) ?_
    refine lv_iadd X.1 X.2.1 dJx4a65c_add_72be8_18 ?_
    refine mm_top (w := nI (0 + 1)) (nI_1 _) ?_
    refine mr_put X hT fp_RJx4a65c_48 (fun h => nomatch h) ((va_up_ne _ _ hne).trans (va_up_self _ _ _)) rfl rfl (by simp) dJx4a65c_add_72be8_19 (fun H locs hT => ?_)
    exact mr_vret X hT hret (⟨rfl, j_added_n hr hne (by decide) (fun k hk => absurd hk (Nat.not_lt_zero _))⟩) (Nat.le_of_ble_eq_true rfl) (Nat.le_of_ble_eq_true rfl) dJx4a65c_add_72be8_22


set_option maxHeartbeats 4000000 in
set_option maxRecDepth 100000 in
theorem j_addB {l : Launch} (hfl : l.stackTraces = false) {G : mw_G} {a e q n cap : Nat} {mc : Int32} {f : Nat → Option Nat} {vs : List Value} {ci : Nat} {C : String} {T : u_T} {N : Nat} {M : mw_M} (hqa : q ≠ a) (he : M a = some (.inr (0, [.int mc, .ref e, .int (nI n)]))) (hf : M e = some (.inl (G.2.1 2, cap, .inr (.inr (.inr (.inr f)))))) (hn : n = cap) (h10 : 10 ≤ cap) (h8 : cap ≤ 533) (hel : ∀ j, j < n → ∃ (y : Nat) (fs : List Value), f j = some y ∧ M y = some (.inr (ci, fs))) (hq : M q = some (.inr (ci, vs))) (hc : vwCl[ci]? = some (C, T, N)) (hca : Cond.castable C "java/lang/Object" ∈ lw_tbl) : mw_Met l G yJx4a65c_add_72be8 (.code yJx4a65c_add_72be8 cJx4a65c_add_72be8 4 none) rm_Jx4a65c_add_72be8 [.ref a, .ref q, .ref e, .int (nI n)] M (mw_pv (fun M1 => j_added G M a e q n cap f mc M1)) := by
  refine mw_of hfl (by decide) (Nat.le_of_ble_eq_true rfl) ?_
  intro zp ze zs zm zb zh zc ls X hin hret hT hl
  have hl : lv_has ls 4 [(0, .ref a), (1, .ref q), (2, .ref e), (3, .int (nI n))] := hl
  subst hn
  refine lv_iload_n X.1 X.2.1 dJx4a65c_add_72be8_0 rfl (lv_at hl 3 rfl) ?_
  refine lv_aload_n X.1 X.2.1 dJx4a65c_add_72be8_1 rfl (lv_at hl 2 rfl) ?_
  refine mr_alen X hT (k := 2) hf (by decide) dJx4a65c_add_72be8_2 ?_
  refine lv_icmp_ne X.1 X.2.1 (tgt := 11) dJx4a65c_add_72be8_3 (by decide) (fun c3 => ?_) (fun c3 => ?_)
  · exact absurd rfl c3
  · skip
    refine lv_aload_n X.1 X.2.1 dJx4a65c_add_72be8_6 rfl (lv_at hl 0 rfl) ?_
    refine mr_g X hT (fun hT' => mr_runV X hT' cb_RJx4a65c_129 kw243 kp2 kw244 (j_grB hfl he hf h10 (by omega) hc hca hel) (mr_cell X hT he rfl) rfl rfl hl.1 ⟨Nat.le_of_ble_eq_true rfl, Nat.le_of_ble_eq_true rfl⟩ (Nat.le_of_ble_eq_true rfl) dJx4a65c_add_72be8_7 ⟨Nat.le_of_ble_eq_true rfl, Nat.le_of_ble_eq_true rfl⟩) (fun v M1 H locs hp hT => ?_)
    obtain ⟨r, rfl, hr, rfl⟩ := hp
    refine W.eq (g2 := F0 zm 10 ls (.ref _ :: _)) rfl ?_
    refine lv_astore_n X.1 X.2.1 dJx4a65c_add_72be8_10 rfl hl (by decide) rfl (fun ls hl => ?_)
    refine lv_aload_n X.1 X.2.1 dJx4a65c_add_72be8_11 rfl (lv_at hl 0 rfl) ?_
    refine lv_iload_n X.1 X.2.1 dJx4a65c_add_72be8_12 rfl (lv_at hl 3 rfl) ?_
    refine lv_aload_n X.1 X.2.1 dJx4a65c_add_72be8_13 rfl (lv_at hl 2 rfl) ?_
    have hne : a ≠ r := mw_old he hr
    have hnq : q ≠ r := mw_old hq hr
    refine mr_aastR (n := n + n / 2) X hT ((va_up_ne _ _ (Ne.symm hne)).trans (va_up_self _ _ _)) hc hca (show (va_up (va_up _ r _) a _ : mw_M) q = some (.inr (ci, vs)) from (va_up_ne _ _ hqa).trans ((va_up_ne _ _ hnq).trans hq)) (by omega) (by omega) dJx4a65c_add_72be8_14 (fun H locs hT => ?_)
    refine lv_aload_n X.1 X.2.1 dJx4a65c_add_72be8_15 rfl (lv_at hl 1 rfl) ?_
    refine lv_iload_n X.1 X.2.1 dJx4a65c_add_72be8_16 rfl (lv_at hl 3 rfl) ?_
    refine lv_iconst X.1 X.2.1 (v := 1) dJx4a65c_add_72be8_17 (by decide) ?_
    refine lv_iadd X.1 X.2.1 dJx4a65c_add_72be8_18 ?_
    refine mm_top (w := nI (n + 1)) (nI_1 _) ?_
    refine mr_put X hT fp_RJx4a65c_48 (fun h => nomatch h) ((va_up_ne _ _ hne).trans (va_up_self _ _ _)) rfl rfl (by simp) dJx4a65c_add_72be8_19 (fun H locs hT => ?_)
    exact mr_vret X hT hret (⟨rfl, j_added_n hr hne (by omega) (fun k hk => j_cpy_lt hk)⟩) (Nat.le_of_ble_eq_true rfl) (Nat.le_of_ble_eq_true rfl) dJx4a65c_add_72be8_22


set_option maxHeartbeats 4000000 in
set_option maxRecDepth 100000 in
theorem j_addC {l : Launch} (hfl : l.stackTraces = false) {G : mw_G} {a e q n cap : Nat} {mc : Int32} {f : Nat → Option Nat} {vs : List Value} {ci : Nat} {C : String} {T : u_T} {N : Nat} {M : mw_M} (hqa : q ≠ a) (he : M a = some (.inr (0, [.int mc, .ref e, .int (nI n)]))) (hf : M e = some (.inl (G.2.1 2, cap, .inr (.inr (.inr (.inr f)))))) (hn : n < cap) (h10 : 10 ≤ cap) (h8 : cap ≤ 800) (hq : M q = some (.inr (ci, vs))) (hc : vwCl[ci]? = some (C, T, N)) (hca : Cond.castable C "java/lang/Object" ∈ lw_tbl) : mw_Met l G yJx4a65c_add_72be8 (.code yJx4a65c_add_72be8 cJx4a65c_add_72be8 4 none) rm_Jx4a65c_add_72be8 [.ref a, .ref q, .ref e, .int (nI n)] M (mw_pv (fun M1 => j_added G M a e q n cap f mc M1)) := by
  refine mw_of hfl (by decide) (Nat.le_of_ble_eq_true rfl) ?_
  intro zp ze zs zm zb zh zc ls X hin hret hT hl
  have hl : lv_has ls 4 [(0, .ref a), (1, .ref q), (2, .ref e), (3, .int (nI n))] := hl
  refine lv_iload_n X.1 X.2.1 dJx4a65c_add_72be8_0 rfl (lv_at hl 3 rfl) ?_
  refine lv_aload_n X.1 X.2.1 dJx4a65c_add_72be8_1 rfl (lv_at hl 2 rfl) ?_
  refine mr_alen X hT (k := 2) hf (by decide) dJx4a65c_add_72be8_2 ?_
  refine lv_icmp_ne X.1 X.2.1 (tgt := 11) dJx4a65c_add_72be8_3 (by decide) (fun c3 => ?_) (fun c3 => ?_)
  · skip
    refine lv_aload_n X.1 X.2.1 dJx4a65c_add_72be8_11 rfl (lv_at hl 2 rfl) ?_
    refine lv_iload_n X.1 X.2.1 dJx4a65c_add_72be8_12 rfl (lv_at hl 3 rfl) ?_
    refine lv_aload_n X.1 X.2.1 dJx4a65c_add_72be8_13 rfl (lv_at hl 1 rfl) ?_
    have hne : a ≠ e := mw_ne he hf (fun z => by cases z)
    refine mr_aastR (n := cap) X hT hf hc hca hq hn (by omega) dJx4a65c_add_72be8_14 (fun H locs hT => ?_)
    refine lv_aload_n X.1 X.2.1 dJx4a65c_add_72be8_15 rfl (lv_at hl 0 rfl) ?_
    refine lv_iload_n X.1 X.2.1 dJx4a65c_add_72be8_16 rfl (lv_at hl 3 rfl) ?_
    refine lv_iconst X.1 X.2.1 (v := 1) dJx4a65c_add_72be8_17 (by decide) ?_
    refine lv_iadd X.1 X.2.1 dJx4a65c_add_72be8_18 ?_
    refine mm_top (w := nI (n + 1)) (nI_1 _) ?_
    refine mr_put X hT fp_RJx4a65c_48 (fun h => nomatch h) ((va_up_ne _ _ hne).trans he) rfl rfl (by simp) dJx4a65c_add_72be8_19 (fun H locs hT => ?_)
    exact mr_vret X hT hret (⟨rfl, j_added_o hne hn h10 h8⟩) (Nat.le_of_ble_eq_true rfl) (Nat.le_of_ble_eq_true rfl) dJx4a65c_add_72be8_22
  · exact absurd ((nI_eq (by omega) (by omega)).mp c3) (by omega)

theorem j_add3 {l : Launch} (hfl : l.stackTraces = false) {G : mw_G} {a e q n cap : Nat} {mc : Int32} {f : Nat → Option Nat} {vs : List Value} {ci : Nat} {C : String} {T : u_T} {N : Nat} {M : mw_M} (hqa : q ≠ a) (he : M a = some (.inr (0, [.int mc, .ref e, .int (nI n)]))) (hst : (e = G.2.2 ∧ n = 0 ∧ cap = 0) ∨ (10 ≤ cap ∧ n ≤ cap ∧ M e = some (.inl (G.2.1 2, cap, .inr (.inr (.inr (.inr f))))))) (h8 : cap ≤ 800) (h5 : n ≤ 533) (hel : ∀ j, j < n → ∃ (y : Nat) (fs : List Value), f j = some y ∧ M y = some (.inr (ci, fs))) (hq : M q = some (.inr (ci, vs))) (hc : vwCl[ci]? = some (C, T, N)) (hca : Cond.castable C "java/lang/Object" ∈ lw_tbl) : mw_Met l G yJx4a65c_add_72be8 (.code yJx4a65c_add_72be8 cJx4a65c_add_72be8 4 none) rm_Jx4a65c_add_72be8 [.ref a, .ref q, .ref e, .int (nI n)] M (mw_pv (fun M1 => j_added G M a e q n cap f mc M1)) := by
  rcases hst with h | ⟨h10, hn, hf⟩
  · exact j_addA hfl hqa he h hq hc hca
  · rcases Nat.lt_or_ge n cap with h | h
    · exact j_addC hfl hqa he hf h h10 h8 hq hc hca
    · exact j_addB hfl hqa he hf (Nat.le_antisymm hn h) h10 (by omega) hel hq hc hca
abbrev rm_Jx4a65c_add_9ea2d : Room := { frames := 6, cells := 1, slots := 1300, locals := 205 }
set_option maxHeartbeats 4000000 in
set_option maxRecDepth 100000 in
theorem j_add {l : Launch} (hfl : l.stackTraces = false) {G : mw_G} {a e q n cap : Nat} {mc : Int32} {f : Nat → Option Nat} {vs : List Value} {ci : Nat} {C : String} {T : u_T} {N : Nat} {M : mw_M} (hqa : q ≠ a) (he : M a = some (.inr (0, [.int mc, .ref e, .int (nI n)]))) (hst : (e = G.2.2 ∧ n = 0 ∧ cap = 0) ∨ (10 ≤ cap ∧ n ≤ cap ∧ M e = some (.inl (G.2.1 2, cap, .inr (.inr (.inr (.inr f))))))) (h8 : cap ≤ 800) (h5 : n ≤ 533) (hel : ∀ j, j < n → ∃ (y : Nat) (fs : List Value), f j = some y ∧ M y = some (.inr (ci, fs))) (hq : M q = some (.inr (ci, vs))) (hc : vwCl[ci]? = some (C, T, N)) (hca : Cond.castable C "java/lang/Object" ∈ lw_tbl) (hci : ci ≠ 0) : mw_Met l G yJx4a65c_add_9ea2d (.code yJx4a65c_add_9ea2d cJx4a65c_add_9ea2d 2 (some .boolean)) rm_Jx4a65c_add_9ea2d [.ref a, .ref q] M (mw_pi (fun r M1 => j_added G M a e q n cap f (mc + 1) M1)) := by
  refine mw_of hfl (by decide) (Nat.le_of_ble_eq_true rfl) ?_
  intro zp ze zs zm zb zh zc ls X hin hret hT hl
  have hl : lv_has ls 2 [(0, .ref a), (1, .ref q)] := hl
  refine lv_aload_n X.1 X.2.1 dJx4a65c_add_9ea2d_0 rfl (lv_at hl 0 rfl) ?_
  refine lv_dup X.1 X.2.1 dJx4a65c_add_9ea2d_1 rfl ?_
  refine mr_get X hT fl_RJx4a65c_63 he rfl dJx4a65c_add_9ea2d_2 ?_
  refine lv_iconst X.1 X.2.1 (v := 1) dJx4a65c_add_9ea2d_5 (by decide) ?_
  refine lv_iadd X.1 X.2.1 dJx4a65c_add_9ea2d_6 ?_
  refine mr_put X hT fp_RJx4a65c_63 (fun h => nomatch h) he rfl rfl (by simp) dJx4a65c_add_9ea2d_7 (fun H locs hT => ?_)
  have hst2 := hst.imp id (fun h => (⟨h.1, h.2.1, (va_up_ne _ _ (fun z => by rw [z, he] at h; cases h.2.2)).trans h.2.2⟩ : _ ∧ _ ∧ va_up M a (some (.inr (0, [.int (mc + 1), .ref e, .int (nI n)]))) e = _))
  have hel2 : ∀ j, j < n → ∃ (y : Nat) (fs : List Value), f j = some y ∧ va_up M a (some (.inr (0, [.int (mc + 1), .ref e, .int (nI n)]))) y = some (.inr (ci, fs)) := fun j hj => (hel j hj).elim fun y h => h.elim fun fs h => ⟨y, fs, h.1, (va_up_ne _ _ (fun z => by rw [z, he] at h; cases h.2; exact hci rfl)).trans h.2⟩
  refine lv_aload_n X.1 X.2.1 dJx4a65c_add_9ea2d_10 rfl (lv_at hl 0 rfl) ?_
  refine lv_aload_n X.1 X.2.1 dJx4a65c_add_9ea2d_11 rfl (lv_at hl 1 rfl) ?_
  refine lv_aload_n X.1 X.2.1 dJx4a65c_add_9ea2d_12 rfl (lv_at hl 0 rfl) ?_
  refine mr_get X hT fl_RJx4a65c_9 (va_up_self _ _ _) rfl dJx4a65c_add_9ea2d_13 ?_
  refine lv_aload_n X.1 X.2.1 dJx4a65c_add_9ea2d_16 rfl (lv_at hl 0 rfl) ?_
  refine mr_get X hT fl_RJx4a65c_48 (va_up_self _ _ _) rfl dJx4a65c_add_9ea2d_17 ?_
  refine mr_g X hT (fun hT' => mr_runV X hT' cb_RJx4a65c_131 kw239 kp1 kw240 (j_add3 (M := va_up M a (some (.inr (0, [.int (mc + 1), .ref e, .int (nI n)])))) hfl hqa (va_up_self _ _ _) hst2 h8 h5 hel2 ((va_up_ne _ _ hqa).trans hq) hc hca) (mr_cell X hT (va_up_self _ _ _) rfl) rfl rfl hl.1 ⟨Nat.le_of_ble_eq_true rfl, Nat.le_of_ble_eq_true rfl⟩ (Nat.le_of_ble_eq_true rfl) dJx4a65c_add_9ea2d_20 ⟨Nat.le_of_ble_eq_true rfl, Nat.le_of_ble_eq_true rfl⟩) (fun v M1 H locs hp hT => ?_)
  obtain ⟨rfl, hp⟩ := hp
  refine W.eq (g2 := F0 zm 23 ls _) rfl ?_
  refine lv_iconst X.1 X.2.1 (v := 1) dJx4a65c_add_9ea2d_23 (by decide) ?_
  exact mr_zret X hT hret (rfl) (⟨_, rfl, j_added_m hp⟩) (Nat.le_of_ble_eq_true rfl) (Nat.le_of_ble_eq_true rfl) dJx4a65c_add_9ea2d_24
