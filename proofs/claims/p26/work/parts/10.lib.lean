/-! WORLDS AS MAPS: a partial map of cells (an address, what lies there); one set of facts of the tables; rows over it. -/
abbrev mw_M : Type := Nat → Option va_E
abbrev mw_G : Type := va_G × (Nat → ClassId) × Nat
def mw_tys (G : mw_G) : List (ClassId × FieldType) := [(G.2.1 0, .int), (G.2.1 1, .int), (G.2.1 2, .object "java/lang/Object"), (G.2.1 3, .int)]
/-- words of the tables that stay: what the kit calls good, and links of nest mates, casts, declarations -/
def mw_ok (w : Cond) : Bool := match w with
  | .fieldLinkNest .. => true
  | .methodLinkNest .. => true
  | .castable .. => true
  | .declares _ => true
  | w => goodWord w
def mw_W (U : State) : Prop := ∀ w ∈ lw_tbl, mw_ok w = true → w.before #[] U = true
theorem mw_use {U : State} {w : Cond} (h : mw_W U) (hm : w ∈ lw_tbl) (hk : mw_ok w = true) {A : Array Value} : w.before A U = true := by
  have h1 := h w hm hk
  unfold mw_ok at hk
  split at hk
  · exact va_Nw.use rfl h1
  · exact va_Nw.use rfl h1
  · exact va_Nw.use rfl h1
  · exact va_Nw.use rfl h1
  · exact word_at (State.WarmedH.refl U) (good_of_word hk) h1
theorem mw_W.warm {s U : State} (hW : s.WarmedH U.vm) (h : mw_W s) : mw_W U := by
  intro w hm hk
  have h1 := h w hm hk
  unfold mw_ok at hk
  split at hk
  · exact va_Nw.warmF hW h1
  · exact va_Nw.warmM hW h1
  · exact va_Nw.warmC hW h1
  · exact va_Nw.warmD hW h1
  · exact word_at hW (good_of_word hk) h1
/-- the written texts: some class, its entry, the text -/
def mw_Sr (q : String × Nat × String) (U : State) : Prop := ∃ a : Nat, vk_R q.1 q.2.1 q.2.2 a U
/-- all that a method knows of the tables (the class object of Object[] has a place of its own among the numbers) -/
def mw_K (S : List (String × Nat × String)) (G : mw_G) (U : State) : Prop := mw_W U ∧ va_K G.1 vwCl (mw_tys G) U ∧ va_AO "java/lang/Object" U ∧ (∀ q ∈ S, mw_Sr q U) ∧ va_Mi "[Ljava/lang/Object;" (G.1.2 99 0) U
theorem mw_K.warm {S : List (String × Nat × String)} {G : mw_G} {s U : State} (hW : s.WarmedH U.vm) (h : mw_K S G s) : mw_K S G U := by
  obtain ⟨h1, h2, h3, h4, h5⟩ := h
  refine ⟨h1.warm hW, va_K.moved hW.alike h2, va_AO.moved hW.alike h3, fun q hq => ?_, va_Mi.moved hW.alike h5⟩
  obtain ⟨a, ha⟩ := h4 q hq
  exact ⟨a, vk_R.warm hW ha⟩
theorem mw_K.calling {S : List (String × Nat × String)} {G : mw_G} {U : State} {g : JFrame} {mk : MethodId} {a : Array Value} (h : mw_K S G U) : mw_K S G (U.calling g mk a) := mw_K.warm (s := U) (State.WarmedH.refl U) h
/-- what a method knows of cells that nobody writes -/
def mw_Z (G : mw_G) (A : Nat → Prop) (U : State) (H : Heap) : Prop :=
  va_Z "java/util/ArrayList" "DEFAULTCAPACITY_EMPTY_ELEMENTDATA" "[Ljava/lang/Object;" (.ref G.2.2) A U H ∧ va_T (.object "java/lang/Object") G.2.2 0 (fun _ => .null) A U H ∧
  vx_Zq Bundle.tN "UNASSIGNED_STACK" Bundle.steD A U H ∧ vx_Zq Bundle.tN "SUPPRESSED_SENTINEL" Bundle.listD A U H
theorem mw_Z.moved {G : mw_G} {A : Nat → Prop} {u U : State} {H : Heap} (hvm : u.vm.Alike U.vm) (h : mw_Z G A u H) : mw_Z G A U H := ⟨h.1.moved hvm, h.2.1.moved hvm, h.2.2.1.moved hvm, h.2.2.2.moved hvm⟩
theorem mw_Z.kept {G : mw_G} {A : Nat → Prop} {U : State} {H H1 : Heap} (h : mw_Z G A U H) (_ : H.size ≤ H1.size) (hq : ∀ a : Nat, a < H.size → ¬ A a → H1[a]? = H[a]?) : mw_Z G A U H1 :=
  ⟨h.1.kept hq, h.2.1.kept hq, h.2.2.1.kept hq, h.2.2.2.kept hq⟩
theorem mw_Z.narrow {G : mw_G} {A B : Nat → Prop} {U : State} {H : Heap} (h : mw_Z G A U H) (hAB : ∀ q, B q → A q) : mw_Z G B U H :=
  ⟨h.1.narrow hAB, h.2.1.narrow hAB, h.2.2.1.narrow hAB, h.2.2.2.narrow hAB⟩
theorem mw_Z.narrowH {G : mw_G} {A B : Nat → Prop} {U : State} {H : Heap} (h : mw_Z G A U H) (hAB : ∀ q, q < H.size → B q → A q) : mw_Z G B U H := by
  have hZ : ∀ {C n d : String} {v : Value}, va_Z C n d v A U H → va_Z C n d v B U H := fun h => by
    obtain ⟨cf, kf, fi, f, a, cell, h1, h2, h3, h4, h5, h6, h7, h8⟩ := h
    exact ⟨cf, kf, fi, f, a, cell, h1, h2, h3, h4, h5, h6, h7, fun z => h8 (hAB a (Array.getElem?_eq_some_iff.mp h5).1 z)⟩
  have hL : ∀ {C n d : String}, vx_L C n d A U H → vx_L C n d B U H := fun h => by
    obtain ⟨c, k, i, f, a, cell, h1, h2, h3, h4, h5, h6, h7, h8, h9, h10⟩ := h
    exact ⟨c, k, i, f, a, cell, h1, h2, h3, h4, h5, h6, h7, h8, h9, fun z => h10 (hAB a (Array.getElem?_eq_some_iff.mp h5).1 z)⟩
  have hT : va_T (.object "java/lang/Object") G.2.2 0 (fun _ => .null) A U H → va_T (.object "java/lang/Object") G.2.2 0 (fun _ => .null) B U H := fun h => by
    obtain ⟨cell, h1, h2, h3, h4, h5, h6, h7⟩ := h
    exact ⟨cell, h1, h2, h3, h4, h5, h6, fun z => h7 (hAB _ (Array.getElem?_eq_some_iff.mp h1).1 z)⟩
  have hQ : ∀ {C n d : String}, vx_Zq C n d A U H → vx_Zq C n d B U H := fun h => ⟨h.1.elim (fun h => Or.inl (hZ h)) (fun ⟨t, h⟩ => Or.inr ⟨t, hZ h⟩), hL h.2⟩
  exact ⟨hZ h.1, hT h.2.1, hQ h.2.2.1, hQ h.2.2.2⟩
/-- the cells that a method may write: those of its map, and new ones -/
def mw_A (M : mw_M) (sz : Nat) : Nat → Prop := fun q => M q ≠ none ∨ sz ≤ q
def mw_P (G : mw_G) (M : mw_M) (H : Heap) : Prop := ∀ (a : Nat) (e : va_E), M a = some e → va_at G.1 vwCl (a, e) H
theorem mw_P.lt {G : mw_G} {M : mw_M} {H : Heap} (h : mw_P G M H) {a : Nat} {e : va_E} (hM : M a = some e) : a < H.size := (h a e hM).lt
theorem mw_P.kept {G : mw_G} {M : mw_M} {H H1 : Heap} (h : mw_P G M H) (hq : ∀ a : Nat, M a ≠ none → H1[a]? = H[a]?) : mw_P G M H1 := fun a e hM => (h a e hM).kept (hq a (by rw [hM]; exact fun z => by cases z))
/-- where a method stands: its map holds in the heap, the map is its own, nothing else has changed -/
def mw_T (G : mw_G) (A : Nat → Prop) (s : State) (M : mw_M) (H : Heap) (locs : List Loc) : Prop := mw_P G M H ∧ (∀ a : Nat, M a ≠ none → A a) ∧ va_S A s.heap H locs
theorem mw_T.set {G : mw_G} {A : Nat → Prop} {s : State} {M : mw_M} {H H1 : Heap} {locs : List Loc} {a k : Nat} {e0 e : va_E} (h : mw_T G A s M H locs) (hM : M a = some e0) (he : va_at G.1 vwCl (a, e) H1) (z : H1.size = H.size) (oq : ∀ q : Nat, q ≠ a → H1[q]? = H[q]?) : mw_T G A s (va_up M a (some e)) H1 (locs ++ [⟨a, k⟩]) := by
  have hA : A a := h.2.1 a (by rw [hM]; exact fun z => by cases z)
  refine ⟨fun b e1 hb => ?_, fun b hb => ?_, h.2.2.put z oq hA⟩
  · by_cases hba : b = a
    · subst hba
      rw [va_up_self] at hb
      cases hb
      exact he
    · rw [va_up_ne _ _ hba] at hb
      exact (h.1 b e1 hb).kept (oq b hba)
  · by_cases hba : b = a
    · rw [hba]; exact hA
    · rw [va_up_ne _ _ hba] at hb
      exact h.2.1 b hb
theorem mw_T.push {G : mw_G} {A : Nat → Prop} {s : State} {M : mw_M} {H H1 : Heap} {locs : List Loc} {e : va_E} (h : mw_T G A s M H locs) (hA : ∀ q, s.heap.size ≤ q → A q) (he : va_at G.1 vwCl (H.size, e) H1) (z : H1.size = H.size + 1) (oq : ∀ q : Nat, q < H.size → H1[q]? = H[q]?) : M H.size = none ∧ mw_T G A s (va_up M H.size (some e)) H1 locs := by
  have hn : M H.size = none := by
    cases hM : M H.size with
    | none => rfl
    | some e1 => exact absurd (h.1.lt hM) (Nat.lt_irrefl _)
  refine ⟨hn, fun b e1 hb => ?_, fun b hb => ?_, ⟨Nat.le_trans h.2.2.1 (by omega), fun q h1 h2 => (oq q (Nat.lt_of_lt_of_le h1 h.2.2.1)).trans (h.2.2.2.1 q h1 h2), h.2.2.2.2⟩⟩
  · by_cases hba : b = H.size
    · subst hba
      rw [va_up_self] at hb
      cases hb
      exact he
    · rw [va_up_ne _ _ hba] at hb
      exact (h.1 b e1 hb).kept (oq b (h.1.lt hb))
  · by_cases hba : b = H.size
    · rw [hba]; exact hA _ h.2.2.1
    · rw [va_up_ne _ _ hba] at hb
      exact h.2.1 b hb
theorem mw_ne {M : mw_M} {a b : Nat} {e f : va_E} (ha : M a = some e) (hb : M b = some f) (h : e ≠ f) : a ≠ b := fun q => h (Option.some.inj ((q ▸ ha).symm.trans hb))
theorem mw_old {M : mw_M} {a b : Nat} {e : va_E} (ha : M a = some e) (hb : M b = none) : a ≠ b := fun q => by rw [q, hb] at ha; cases ha
