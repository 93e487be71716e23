/-! the beginning: the constructors -/
def s_0 : s_T := (fun _ => 0, fun _ _ => 0)
/-- the gate's lists while they are made -/
def CI (G : mw_G) (hx : Nat) (li : Nat → Nat) (D : List Nat) (fs : List Value) (M : mw_M) : Prop := M hx = some (.inr (8, fs)) ∧ (∀ k, k ∈ D → M (li k) = some (.inr (0, [.int 0, .ref G.2.2, .int 0]))) ∧ ∀ j, j ∈ D → ∀ k, k ∈ D → li j = li k → j = k
theorem CI.list {G : mw_G} {hx : Nat} {li : Nat → Nat} {D : List Nat} {fs : List Value} {M M1 : mw_M} (h : CI G hx li D fs M) {k q : Nat} {e0 : va_E} (hq : M q = none) (h1 : M1 q = some (.inr (0, [.int 0, .ref G.2.2, .int 0]))) (h2 : ∀ c, c ≠ q → M1 c = va_up M q (some e0) c) (hk : k ∉ D) : CI G hx (va_up li k q) (k :: D) fs M1 := by
  have hxq : hx ≠ q := mw_old h.1 hq
  have hjq : ∀ j, j ∈ D → li j ≠ q := fun j hj => mw_old (h.2.1 j hj) hq
  have hne : ∀ j, j ∈ D → j ≠ k := fun j hj z => hk (z ▸ hj)
  refine ⟨by rw [h2 _ hxq, va_up_ne _ _ hxq]; exact h.1, fun j hj => ?_, fun i hi j hj hz => ?_⟩
  · rcases List.mem_cons.mp hj with rfl | hj
    · rw [va_up_self]; exact h1
    · rw [va_up_ne _ _ (hne j hj), h2 _ (hjq j hj), va_up_ne _ _ (hjq j hj)]
      exact h.2.1 j hj
  · rcases List.mem_cons.mp hi with hik | hi2 <;> rcases List.mem_cons.mp hj with hjk | hj2
    · exact hik.trans hjk.symm
    · rw [hik, va_up_self, va_up_ne _ _ (hne j hj2)] at hz
      exact absurd hz.symm (hjq j hj2)
    · rw [va_up_ne _ _ (hne i hi2), hjk, va_up_self] at hz
      exact absurd hz (hjq i hi2)
    · rw [va_up_ne _ _ (hne i hi2), va_up_ne _ _ (hne j hj2)] at hz
      exact h.2.2 i hi2 j hj2 hz
theorem CI.put {G : mw_G} {hx : Nat} {li : Nat → Nat} {D : List Nat} {fs : List Value} {M : mw_M} (h : CI G hx li D fs M) {k : Nat} (v : Value) : CI G hx li D (fs.set k v) (va_up M hx (some (.inr (8, fs.set k v)))) :=
  ⟨va_up_self _ _ _, fun j hj => (va_up_ne _ _ (mw_ne (h.2.1 j hj) h.1 (fun z => by cases z))).trans (h.2.1 j hj), h.2.2⟩
/-- the record, beside the lists -/
def CR (G : mw_G) (r ka sa : Nat) (M : mw_M) : Prop := M r = some (.inr (7, [.ref ka, .ref sa, .int 0, .int 1])) ∧ M ka = some (.inl (G.2.1 0, 1024, .inl (fun _ => 0))) ∧ M sa = some (.inl (G.2.1 0, 1024, .inl (fun _ => 0))) ∧ ka ≠ sa
theorem CR.put {G : mw_G} {r ka sa hx : Nat} {fs : List Value} {M : mw_M} (h : CR G r ka sa M) (hx0 : M hx = some (.inr (8, fs))) {k : Nat} (v : Value) : CR G r ka sa (va_up M hx (some (.inr (8, fs.set k v)))) :=
  ⟨(va_up_ne _ _ (mw_ne h.1 hx0 (fun z => by cases z))).trans h.1, (va_up_ne _ _ (mw_ne h.2.1 hx0 (fun z => by cases z))).trans h.2.1, (va_up_ne _ _ (mw_ne h.2.2.1 hx0 (fun z => by cases z))).trans h.2.2.1, h.2.2.2⟩
theorem CI.recd {G : mw_G} {hx : Nat} {li : Nat → Nat} {D : List Nat} {fs : List Value} {M M1 : mw_M} (h : CI G hx li D fs M) {r ka sa : Nat} {e0 : va_E} (hr : M r = none) (n1 : M1 r = some (.inr (7, [.ref ka, .ref sa, .int 0, .int 1]))) (n2 : M1 ka = some (.inl (G.2.1 0, 1024, .inl (fun _ => 0)))) (n3 : M1 sa = some (.inl (G.2.1 0, 1024, .inl (fun _ => 0)))) (n4 : ka ≠ sa) (n5 : va_up M r (some e0) ka = none) (n6 : va_up M r (some e0) sa = none) (n7 : ∀ q, q ≠ r → q ≠ ka → q ≠ sa → M1 q = va_up M r (some e0) q) : CI G hx li D fs M1 ∧ CR G r ka sa M1 := by
  have hkr : ka ≠ r := fun z => by rw [z, va_up_self] at n5; cases n5
  have hsr : sa ≠ r := fun z => by rw [z, va_up_self] at n6; cases n6
  rw [va_up_ne _ _ hkr] at n5
  rw [va_up_ne _ _ hsr] at n6
  have old : ∀ (a : Nat) (e : va_E), M a = some e → M1 a = some e := fun a e ha => by
    rw [n7 a (mw_old ha hr) (mw_old ha n5) (mw_old ha n6), va_up_ne _ _ (mw_old ha hr)]
    exact ha
  exact ⟨⟨old _ _ h.1, fun j hj => old _ _ (h.2.1 j hj), h.2.2⟩, n1, n2, n3, n4⟩
def c_b0 (hx r ka sa : Nat) (li : Nat → Nat) : c_B := fun s k => match s with
  | 0 => hx
  | 1 => r
  | 2 => ka
  | 3 => sa
  | _ => li k
def c_w0 : c_W := (fun s _ => if s = 5 then 1 else 0, fun _ => 0, fun _ _ => none)
theorem cI_0 (i : Nat) : ct s_0 (cI i) = 0 := rfl
theorem c_done {G : mw_G} {hx r ka sa : Nat} {li : Nat → Nat} {fs : List Value} {M : mw_M} (h : CI G hx li [5, 4, 3, 2, 1, 0] fs M) (hr : CR G r ka sa M) (hf : fs = [.ref (li 0), .ref (li 1), .ref (li 2), .ref (li 3), .ref (li 4), .ref (li 5), .ref r, .int 0, .int 0]) : ∃ (b : c_B) (w : c_W), b 0 0 = hx ∧ CA G b s_0 w M ∧ c_ok 0 b s_0 w := by
  subst hf
  have hD : ∀ k, k < 6 → k ∈ [5, 4, 3, 2, 1, 0] := by decide
  have e0 : M hx = some (.inr (8, [.ref (li 0), .ref (li 1), .ref (li 2), .ref (li 3), .ref (li 4), .ref (li 5), .ref r, .int 0, .int 0])) := h.1
  have e4 : ∀ k, k < 6 → M (li k) = some (.inr (0, [.int 0, .ref G.2.2, .int 0])) := fun k hk => h.2.1 k (hD k hk)
  have key : ∀ s k, cl s_0 c_w0 s k → (s = 0 ∧ k = 0) ∨ (s = 1 ∧ k = 0) ∨ (s = 2 ∧ k = 0) ∨ (s = 3 ∧ k = 0) ∨ (s = 4 ∧ k < 6) := cl_cases (P := fun s k => (s = 0 ∧ k = 0) ∨ (s = 1 ∧ k = 0) ∨ (s = 2 ∧ k = 0) ∨ (s = 3 ∧ k = 0) ∨ (s = 4 ∧ k < 6)) (by simp) (by simp) (by simp) (by simp) (fun k hk => by simp [hk]) (fun k _ hz => absurd rfl hz) (fun k hk => absurd hk (Nat.not_lt_zero _)) (fun k hk => absurd hk (Nat.not_lt_zero _)) (fun k hk => absurd hk (Nat.not_lt_zero _)) (fun k hk => absurd hk (Nat.not_lt_zero _)) (fun k hk => absurd hk (Nat.not_lt_zero _)) (fun k hk => absurd hk (Nat.not_lt_zero _))
  refine ⟨c_b0 hx r ka sa li, c_w0, rfl, ⟨fun s k hs => ?_, fun s k s' k' hs hs' hz => ?_⟩, ?_⟩
  · rcases key s k hs with ⟨rfl, rfl⟩ | ⟨rfl, rfl⟩ | ⟨rfl, rfl⟩ | ⟨rfl, rfl⟩ | ⟨rfl, hk⟩
    · exact e0
    · exact hr.1
    · exact hr.2.1
    · exact hr.2.2.1
    · exact e4 k hk
  · rcases key s k hs with ⟨rfl, rfl⟩ | ⟨rfl, rfl⟩ | ⟨rfl, rfl⟩ | ⟨rfl, rfl⟩ | ⟨rfl, hk⟩ <;> rcases key s' k' hs' with ⟨rfl, rfl⟩ | ⟨rfl, rfl⟩ | ⟨rfl, rfl⟩ | ⟨rfl, rfl⟩ | ⟨rfl, hk'⟩
    · exact ⟨rfl, rfl⟩
    · exact absurd hz (mw_ne e0 hr.1 (fun z => by cases z))
    · exact absurd hz (mw_ne e0 hr.2.1 (fun z => by cases z))
    · exact absurd hz (mw_ne e0 hr.2.2.1 (fun z => by cases z))
    · exact absurd hz (mw_ne e0 (e4 k' hk') (fun z => by cases z))
    · exact absurd hz (mw_ne hr.1 e0 (fun z => by cases z))
    · exact ⟨rfl, rfl⟩
    · exact absurd hz (mw_ne hr.1 hr.2.1 (fun z => by cases z))
    · exact absurd hz (mw_ne hr.1 hr.2.2.1 (fun z => by cases z))
    · exact absurd hz (mw_ne hr.1 (e4 k' hk') (fun z => by cases z))
    · exact absurd hz (mw_ne hr.2.1 e0 (fun z => by cases z))
    · exact absurd hz (mw_ne hr.2.1 hr.1 (fun z => by cases z))
    · exact ⟨rfl, rfl⟩
    · exact absurd hz hr.2.2.2
    · exact absurd hz (mw_ne hr.2.1 (e4 k' hk') (fun z => by cases z))
    · exact absurd hz (mw_ne hr.2.2.1 e0 (fun z => by cases z))
    · exact absurd hz (mw_ne hr.2.2.1 hr.1 (fun z => by cases z))
    · exact absurd hz.symm hr.2.2.2
    · exact ⟨rfl, rfl⟩
    · exact absurd hz (mw_ne hr.2.2.1 (e4 k' hk') (fun z => by cases z))
    · exact absurd hz (mw_ne (e4 k hk) e0 (fun z => by cases z))
    · exact absurd hz (mw_ne (e4 k hk) hr.1 (fun z => by cases z))
    · exact absurd hz (mw_ne (e4 k hk) hr.2.1 (fun z => by cases z))
    · exact absurd hz (mw_ne (e4 k hk) hr.2.2.1 (fun z => by cases z))
    · exact ⟨rfl, h.2.2 k (hD k hk) k' (hD k' hk') hz⟩
  · refine ⟨fun k hk => absurd hk (Nat.not_lt_zero _), fun k hk => absurd hk (Nat.not_lt_zero _), fun k hk => absurd hk (Nat.not_lt_zero _), fun i hi => ⟨Nat.le_refl _, Nat.zero_le _, fun z => absurd rfl z, fun k hk => absurd hk (Nat.not_lt_zero _)⟩, rfl, rfl⟩
abbrev rm_X6_init : Room := { frames := 1, cells := 2, slots := 2048, locals := 24 }
set_option maxHeartbeats 4000000 in
set_option maxRecDepth 100000 in
theorem k_record {l : Launch} (hfl : l.stackTraces = false) {G : mw_G} {a : Nat} {M : mw_M} (he : M a = some (.inr (7, [.null, .null, .int 0, .int 0]))) : mw_Met l G yX6_init (.code yX6_init cX6_init 1 none) rm_X6_init [.ref a] M (mw_pv (fun M1 => ∃ ka sa : Nat, M1 a = some (.inr (7, [.ref ka, .ref sa, .int 0, .int 1])) ∧ M1 ka = some (.inl (G.2.1 0, 1024, .inl (fun _ => 0))) ∧ M1 sa = some (.inl (G.2.1 0, 1024, .inl (fun _ => 0))) ∧ ka ≠ sa ∧ M ka = none ∧ M sa = none ∧ ∀ q, q ≠ a → q ≠ ka → q ≠ sa → M1 q = M q)) := by
  refine mw_of hfl (by decide) (Nat.le_of_ble_eq_true rfl) ?_
  intro zp ze zs zm zb zh zc ls X hin hret hT hl
  have hl : lv_has ls 1 [(0, .ref a)] := hl
  refine lv_aload_n X.1 X.2.1 dX6_init_0 rfl (lv_at hl 0 rfl) ?_
  refine mr_obj /-objinit-/ X kw72 hl.1 (Nat.le_of_ble_eq_true rfl) (Nat.le_of_ble_eq_true rfl) dX6_init_1 ?_
  refine lv_aload_n X.1 X.2.1 dX6_init_4 rfl (lv_at hl 0 rfl) ?_
  refine lv_sipush X.1 X.2.1 (v := 1024) dX6_init_5 (by decide) ?_
  refine mr_newa X hT (atype := .int) (k := 0) (N := 1024) (x := .inl (fun _ => 0)) rfl kw89 (fun cA => rfl) (nI_pos (n := 1024) (by decide)) (nI_clamp (n := 1024) (by decide)) (Nat.le_of_ble_eq_true rfl) (Nat.le_of_ble_eq_true rfl) (Nat.le_of_ble_eq_true rfl) dX6_init_8 (fun ka H hka hT => ?_)
  have hak : a ≠ ka := mw_old he hka
  refine mr_put X hT fp_RX6_9 (fun _ => hin) ((va_up_ne _ _ hak).trans he) (by first | rfl | decide) (by first | rfl | decide) (by simp) dX6_init_10 (fun H locs hT => ?_)
  refine lv_aload_n X.1 X.2.1 dX6_init_13 rfl (lv_at hl 0 rfl) ?_
  refine lv_sipush X.1 X.2.1 (v := 1024) dX6_init_14 (by decide) ?_
  refine mr_newa X hT (atype := .int) (k := 0) (N := 1024) (x := .inl (fun _ => 0)) rfl kw89 (fun cA => rfl) (nI_pos (n := 1024) (by decide)) (nI_clamp (n := 1024) (by decide)) (Nat.le_of_ble_eq_true rfl) (Nat.le_of_ble_eq_true rfl) (Nat.le_of_ble_eq_true rfl) dX6_init_17 (fun sa H hsa hT => ?_)
  have has : a ≠ sa := fun z => by rw [← z, va_up_self] at hsa; cases hsa
  have hks : ka ≠ sa := fun z => by rw [← z, va_up_ne _ _ (Ne.symm hak), va_up_self] at hsa; cases hsa
  have hsa0 : M sa = none := by rw [va_up_ne _ _ (Ne.symm has), va_up_ne _ _ (Ne.symm hks)] at hsa; exact hsa
  refine mr_put X hT fp_RX6_15 (fun _ => hin) ((va_up_ne _ _ has).trans (va_up_self _ _ _)) (by first | rfl | decide) (by first | rfl | decide) (by simp) dX6_init_19 (fun H locs hT => ?_)
  refine lv_aload_n X.1 X.2.1 dX6_init_22 rfl (lv_at hl 0 rfl) ?_
  refine lv_iconst X.1 X.2.1 (v := 0) dX6_init_23 (by decide) ?_
  refine mr_put X hT fp_RX6_18 (fun h => nomatch h) (va_up_self _ _ _) (by first | rfl | decide) (by first | rfl | decide) (by simp) dX6_init_24 (fun H locs hT => ?_)
  refine lv_aload_n X.1 X.2.1 dX6_init_27 rfl (lv_at hl 0 rfl) ?_
  refine lv_iconst X.1 X.2.1 (v := 1) dX6_init_28 (by decide) ?_
  refine mr_put X hT fp_RX6_22 (fun h => nomatch h) (va_up_self _ _ _) (by first | rfl | decide) (by first | rfl | decide) (by simp) dX6_init_29 (fun H locs hT => ?_)
  exact mr_vret X hT hret (⟨rfl, ka, sa, va_up_self _ _ _, by simp [va_up, hak, hks, Ne.symm hak, Ne.symm hks], by simp [va_up, has, hks, Ne.symm has, Ne.symm hks], hks, hka, hsa0, fun q h1 h2 h3 => by simp [va_up, h1, h2, h3]⟩) (Nat.le_of_ble_eq_true rfl) (Nat.le_of_ble_eq_true rfl) dX6_init_32

abbrev rm_X7_init : Room := { frames := 4, cells := 9, slots := 2070, locals := 84 }
set_option maxHeartbeats 4000000 in
set_option maxRecDepth 100000 in
theorem k_gate {l : Launch} (hfl : l.stackTraces = false) {G : mw_G} {hx : Nat} {M : mw_M} (he : M hx = some (.inr (8, [.null, .null, .null, .null, .null, .null, .null, .int 0, .int 0]))) : mw_Met l G yX7_init (.code yX7_init cX7_init 1 none) rm_X7_init [.ref hx] M (mw_pv (fun M1 => ∃ (b : c_B) (w : c_W), b 0 0 = hx ∧ CA G b s_0 w M1 ∧ c_ok 0 b s_0 w)) := by
  refine mw_of hfl (by decide) (Nat.le_of_ble_eq_true rfl) ?_
  intro zp ze zs zm zb zh zc ls X hin hret hT hl
  have hl : lv_has ls 1 [(0, .ref hx)] := hl
  have hM : CI G hx (fun _ => 0) [] _ M := ⟨he, fun k hk => absurd hk List.not_mem_nil, fun j hj => absurd hj List.not_mem_nil⟩
  refine lv_aload_n X.1 X.2.1 dX7_init_0 rfl (lv_at hl 0 rfl) ?_
  refine mr_obj /-objinit-/ X kw38 hl.1 (Nat.le_of_ble_eq_true rfl) (Nat.le_of_ble_eq_true rfl) dX7_init_1 ?_
  refine lv_aload_n X.1 X.2.1 dX7_init_4 rfl (lv_at hl 0 rfl) ?_
  refine mr_new X hT (ci := 0) rfl uin_0 tyJx4a65c tyJx4a65c_ok kw41 kw42 kw4 (fs := [.int 0, .null, .int 0]) (fun j hj => by have hj : j < 3 := hj; rcases (show j = 0 ∨ j = 1 ∨ j = 2 by omega) with rfl | rfl | rfl <;> rfl) (Nat.le_of_ble_eq_true rfl) (Nat.le_of_ble_eq_true rfl) dX7_init_5 (fun q0 H hq0 hT => ?_)
  refine lv_dup X.1 X.2.1 dX7_init_8 rfl ?_
  refine mr_g X hT (fun hT' => mr_runI X hT' cb_RX7_11 kw44 rfl kw45 (j_linit hfl (va_up_self _ _ _)) rfl rfl hl.1 ⟨Nat.le_of_ble_eq_true rfl, Nat.le_of_ble_eq_true rfl⟩ (Nat.le_of_ble_eq_true rfl) dX7_init_9 ⟨Nat.le_of_ble_eq_true rfl, Nat.le_of_ble_eq_true rfl⟩) (fun v M1 H locs hp hT => ?_)
  obtain ⟨rfl, hn1, hn2⟩ := hp
  have hM := hM.list (k := 0) hq0 hn1 hn2 (by decide)
  refine W.eq (g2 := F0 zm 12 ls _) rfl ?_
  refine mr_put X hT fp_RX7_12 (fun _ => hin) hM.1 (by first | rfl | decide) (by first | rfl | decide) (by simp) dX7_init_12 (fun H locs hT => ?_)
  have hM := hM.put (k := 0) (.ref q0)
  refine lv_aload_n X.1 X.2.1 dX7_init_15 rfl (lv_at hl 0 rfl) ?_
  refine mr_new X hT (ci := 0) rfl uin_0 tyJx4a65c tyJx4a65c_ok kw41 kw42 kw4 (fs := [.int 0, .null, .int 0]) (fun j hj => by have hj : j < 3 := hj; rcases (show j = 0 ∨ j = 1 ∨ j = 2 by omega) with rfl | rfl | rfl <;> rfl) (Nat.le_of_ble_eq_true rfl) (Nat.le_of_ble_eq_true rfl) dX7_init_16 (fun q1 H hq1 hT => ?_)
  refine lv_dup X.1 X.2.1 dX7_init_19 rfl ?_
  refine mr_g X hT (fun hT' => mr_runI X hT' cb_RX7_11 kw44 rfl kw45 (j_linit hfl (va_up_self _ _ _)) rfl rfl hl.1 ⟨Nat.le_of_ble_eq_true rfl, Nat.le_of_ble_eq_true rfl⟩ (Nat.le_of_ble_eq_true rfl) dX7_init_20 ⟨Nat.le_of_ble_eq_true rfl, Nat.le_of_ble_eq_true rfl⟩) (fun v M1 H locs hp hT => ?_)
  obtain ⟨rfl, hn1, hn2⟩ := hp
  have hM := hM.list (k := 1) hq1 hn1 hn2 (by decide)
  refine W.eq (g2 := F0 zm 23 ls _) rfl ?_
  refine mr_put X hT fp_RX7_16 (fun _ => hin) hM.1 (by first | rfl | decide) (by first | rfl | decide) (by simp) dX7_init_23 (fun H locs hT => ?_)
  have hM := hM.put (k := 1) (.ref q1)
  refine lv_aload_n X.1 X.2.1 dX7_init_26 rfl (lv_at hl 0 rfl) ?_
  refine mr_new X hT (ci := 0) rfl uin_0 tyJx4a65c tyJx4a65c_ok kw41 kw42 kw4 (fs := [.int 0, .null, .int 0]) (fun j hj => by have hj : j < 3 := hj; rcases (show j = 0 ∨ j = 1 ∨ j = 2 by omega) with rfl | rfl | rfl <;> rfl) (Nat.le_of_ble_eq_true rfl) (Nat.le_of_ble_eq_true rfl) dX7_init_27 (fun q2 H hq2 hT => ?_)
  refine lv_dup X.1 X.2.1 dX7_init_30 rfl ?_
  refine mr_g X hT (fun hT' => mr_runI X hT' cb_RX7_11 kw44 rfl kw45 (j_linit hfl (va_up_self _ _ _)) rfl rfl hl.1 ⟨Nat.le_of_ble_eq_true rfl, Nat.le_of_ble_eq_true rfl⟩ (Nat.le_of_ble_eq_true rfl) dX7_init_31 ⟨Nat.le_of_ble_eq_true rfl, Nat.le_of_ble_eq_true rfl⟩) (fun v M1 H locs hp hT => ?_)
  obtain ⟨rfl, hn1, hn2⟩ := hp
  have hM := hM.list (k := 2) hq2 hn1 hn2 (by decide)
  refine W.eq (g2 := F0 zm 34 ls _) rfl ?_
  refine mr_put X hT fp_RX7_19 (fun _ => hin) hM.1 (by first | rfl | decide) (by first | rfl | decide) (by simp) dX7_init_34 (fun H locs hT => ?_)
  have hM := hM.put (k := 2) (.ref q2)
  refine lv_aload_n X.1 X.2.1 dX7_init_37 rfl (lv_at hl 0 rfl) ?_
  refine mr_new X hT (ci := 0) rfl uin_0 tyJx4a65c tyJx4a65c_ok kw41 kw42 kw4 (fs := [.int 0, .null, .int 0]) (fun j hj => by have hj : j < 3 := hj; rcases (show j = 0 ∨ j = 1 ∨ j = 2 by omega) with rfl | rfl | rfl <;> rfl) (Nat.le_of_ble_eq_true rfl) (Nat.le_of_ble_eq_true rfl) dX7_init_38 (fun q3 H hq3 hT => ?_)
  refine lv_dup X.1 X.2.1 dX7_init_41 rfl ?_
  refine mr_g X hT (fun hT' => mr_runI X hT' cb_RX7_11 kw44 rfl kw45 (j_linit hfl (va_up_self _ _ _)) rfl rfl hl.1 ⟨Nat.le_of_ble_eq_true rfl, Nat.le_of_ble_eq_true rfl⟩ (Nat.le_of_ble_eq_true rfl) dX7_init_42 ⟨Nat.le_of_ble_eq_true rfl, Nat.le_of_ble_eq_true rfl⟩) (fun v M1 H locs hp hT => ?_)
  obtain ⟨rfl, hn1, hn2⟩ := hp
  have hM := hM.list (k := 3) hq3 hn1 hn2 (by decide)
  refine W.eq (g2 := F0 zm 45 ls _) rfl ?_
  refine mr_put X hT fp_RX7_22 (fun _ => hin) hM.1 (by first | rfl | decide) (by first | rfl | decide) (by simp) dX7_init_45 (fun H locs hT => ?_)
  have hM := hM.put (k := 3) (.ref q3)
  refine lv_aload_n X.1 X.2.1 dX7_init_48 rfl (lv_at hl 0 rfl) ?_
  refine mr_new X hT (ci := 0) rfl uin_0 tyJx4a65c tyJx4a65c_ok kw41 kw42 kw4 (fs := [.int 0, .null, .int 0]) (fun j hj => by have hj : j < 3 := hj; rcases (show j = 0 ∨ j = 1 ∨ j = 2 by omega) with rfl | rfl | rfl <;> rfl) (Nat.le_of_ble_eq_true rfl) (Nat.le_of_ble_eq_true rfl) dX7_init_49 (fun q4 H hq4 hT => ?_)
  refine lv_dup X.1 X.2.1 dX7_init_52 rfl ?_
  refine mr_g X hT (fun hT' => mr_runI X hT' cb_RX7_11 kw44 rfl kw45 (j_linit hfl (va_up_self _ _ _)) rfl rfl hl.1 ⟨Nat.le_of_ble_eq_true rfl, Nat.le_of_ble_eq_true rfl⟩ (Nat.le_of_ble_eq_true rfl) dX7_init_53 ⟨Nat.le_of_ble_eq_true rfl, Nat.le_of_ble_eq_true rfl⟩) (fun v M1 H locs hp hT => ?_)
  obtain ⟨rfl, hn1, hn2⟩ := hp
  have hM := hM.list (k := 4) hq4 hn1 hn2 (by decide)
  refine W.eq (g2 := F0 zm 56 ls _) rfl ?_
  refine mr_put X hT fp_RX7_25 (fun _ => hin) hM.1 (by first | rfl | decide) (by first | rfl | decide) (by simp) dX7_init_56 (fun H locs hT => ?_)
  have hM := hM.put (k := 4) (.ref q4)
  refine lv_aload_n X.1 X.2.1 dX7_init_59 rfl (lv_at hl 0 rfl) ?_
  refine mr_new X hT (ci := 0) rfl uin_0 tyJx4a65c tyJx4a65c_ok kw41 kw42 kw4 (fs := [.int 0, .null, .int 0]) (fun j hj => by have hj : j < 3 := hj; rcases (show j = 0 ∨ j = 1 ∨ j = 2 by omega) with rfl | rfl | rfl <;> rfl) (Nat.le_of_ble_eq_true rfl) (Nat.le_of_ble_eq_true rfl) dX7_init_60 (fun q5 H hq5 hT => ?_)
  refine lv_dup X.1 X.2.1 dX7_init_63 rfl ?_
  refine mr_g X hT (fun hT' => mr_runI X hT' cb_RX7_11 kw44 rfl kw45 (j_linit hfl (va_up_self _ _ _)) rfl rfl hl.1 ⟨Nat.le_of_ble_eq_true rfl, Nat.le_of_ble_eq_true rfl⟩ (Nat.le_of_ble_eq_true rfl) dX7_init_64 ⟨Nat.le_of_ble_eq_true rfl, Nat.le_of_ble_eq_true rfl⟩) (fun v M1 H locs hp hT => ?_)
  obtain ⟨rfl, hn1, hn2⟩ := hp
  have hM := hM.list (k := 5) hq5 hn1 hn2 (by decide)
  refine W.eq (g2 := F0 zm 67 ls _) rfl ?_
  refine mr_put X hT fp_RX7_28 (fun _ => hin) hM.1 (by first | rfl | decide) (by first | rfl | decide) (by simp) dX7_init_67 (fun H locs hT => ?_)
  have hM := hM.put (k := 5) (.ref q5)
  refine lv_aload_n X.1 X.2.1 dX7_init_70 rfl (lv_at hl 0 rfl) ?_
  refine mr_new X hT (ci := 7) rfl uin_7 tyX6 tyX6_ok kw67 kw68 kw5 (fs := [.null, .null, .int 0, .int 0]) (fun j hj => by have hj : j < 4 := hj; rcases (show j = 0 ∨ j = 1 ∨ j = 2 ∨ j = 3 by omega) with rfl | rfl | rfl | rfl <;> rfl) (Nat.le_of_ble_eq_true rfl) (Nat.le_of_ble_eq_true rfl) dX7_init_71 (fun r0 H hr0 hT => ?_)
  refine lv_dup X.1 X.2.1 dX7_init_74 rfl ?_
  refine mr_g X hT (fun hT' => mr_runIN X hT' cn_RX7_33 kw70 rfl kw71 (k_record hfl (va_up_self _ _ _)) rfl rfl hl.1 ⟨Nat.le_of_ble_eq_true rfl, Nat.le_of_ble_eq_true rfl⟩ (Nat.le_of_ble_eq_true rfl) dX7_init_75 ⟨Nat.le_of_ble_eq_true rfl, Nat.le_of_ble_eq_true rfl⟩) (fun v M1 H locs hp hT => ?_)
  obtain ⟨rfl, ka, sa, n1, n2, n3, n4, n5, n6, n7⟩ := hp
  have hM := hM.recd hr0 n1 n2 n3 n4 n5 n6 n7
  obtain ⟨hM, hrec⟩ := hM
  refine W.eq (g2 := F0 zm 78 ls _) rfl ?_
  refine mr_put X hT fp_RX7_34 (fun _ => hin) hM.1 (by first | rfl | decide) (by first | rfl | decide) (by simp) dX7_init_78 (fun H locs hT => ?_)
  have hrec := hrec.put hM.1 (k := 6) (.ref r0)
  have hM := hM.put (k := 6) (.ref r0)
  refine lv_aload_n X.1 X.2.1 dX7_init_81 rfl (lv_at hl 0 rfl) ?_
  refine lv_iconst X.1 X.2.1 (v := 0) dX7_init_82 (by decide) ?_
  refine mr_put X hT fp_RX7_38 (fun h => nomatch h) hM.1 (by first | rfl | decide) (by first | rfl | decide) (by simp) dX7_init_83 (fun H locs hT => ?_)
  have hrec := hrec.put hM.1 (k := 7) (.int 0)
  have hM := hM.put (k := 7) (.int 0)
  refine lv_aload_n X.1 X.2.1 dX7_init_86 rfl (lv_at hl 0 rfl) ?_
  refine lv_iconst X.1 X.2.1 (v := 0) dX7_init_87 (by decide) ?_
  refine mr_put X hT fp_RX7_42 (fun h => nomatch h) hM.1 (by first | rfl | decide) (by first | rfl | decide) (by simp) dX7_init_88 (fun H locs hT => ?_)
  have hrec := hrec.put hM.1 (k := 8) (.int 0)
  have hM := hM.put (k := 8) (.int 0)
  exact mr_vret X hT hret (⟨rfl, c_done hM hrec (by simp [va_up])⟩) (Nat.le_of_ble_eq_true rfl) (Nat.le_of_ble_eq_true rfl) dX7_init_91

