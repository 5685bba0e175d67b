section SNO
/-! X: alive stops, moving between stops -/
variable {K S oa ca sg dp pa st : Nat → Nat} {V : Nat → Int32} {c : Nat}
theorem sn_m1le {n : Nat} (h : n < 2 ^ 31) : (-1 : Int32) ≤ nI n := by
  rw [Int32.le_iff_toInt_le, nI_toInt h]
  show (-1 : Int) ≤ _
  omega
theorem sn_nm1 {n : Nat} (h : n < 2 ^ 31) : ¬ nI n = -1 := fun z => by
  have e := congrArg Int32.toInt z
  rw [nI_toInt h] at e
  have e2 : ((n : Nat) : Int) = -1 := e
  omega
theorem sn_nlem1 {n : Nat} (h : n < 2 ^ 31) : ¬ nI n ≤ -1 := fun z => by
  rw [Int32.le_iff_toInt_le, nI_toInt h] at z
  have e2 : ((n : Nat) : Int) ≤ -1 := z
  omega
theorem sn_oLE {a b : Nat} (ha : a ≤ 1000) (hb : b ≤ 1000) : sn_o a ≤ sn_o b ↔ (a = 1000 ∨ (b ≠ 1000 ∧ a ≤ b)) := by
  by_cases z : a = 1000
  · rw [sn_o0 z]
    refine ⟨fun _ => Or.inl z, fun _ => ?_⟩
    by_cases y : b = 1000
    · rw [sn_o0 y]; decide
    · rw [sn_o1 y]; exact sn_m1le (by omega)
  · rw [sn_o1 z]
    by_cases y : b = 1000
    · rw [sn_o0 y]
      exact ⟨fun w => absurd w (sn_nlem1 (by omega)), fun w => by omega⟩
    · rw [sn_o1 y, nI_leI (by omega) (by omega)]; omega
theorem sn_oM {a : Nat} (ha : a ≤ 1000) : sn_o a = -1 ↔ a = 1000 := by
  by_cases z : a = 1000
  · rw [sn_o0 z]; exact ⟨fun _ => z, fun _ => rfl⟩
  · rw [sn_o1 z]; exact ⟨fun w => absurd w (sn_nm1 (by omega)), fun w => absurd w z⟩
def sn_AL (oa ca : Nat → Nat) (L : Nat → Int32) (s : Nat) : Prop := oa s ≠ 1000 ∧ ¬ sn_hid oa ca L 0 (oa s)
theorem sn_clB (P : sn_PI c 0 st K V S oa ca sg dp pa) (s : Nat) : oa s ≤ 1000 ∧ ca s ≤ 1000 ∧ (oa s = 1000 ↔ ca s = 1000) := by
  have h0 := P.1
  rcases sn_clo P s with a | a | a <;> omega
variable {f_capacity f_historyCap f_length f_caret f_selStart f_bodyLength f_undoDepth f_merge f_itemCount f_baseLength f_basePos f_activeStop f_selected f_draftCount f_depth f_readAt : Int32} {a_text a_body a_history a_itemKind a_itemValue a_openAt a_closeAt a_base a_typedLength a_typedText a_draftKind a_draftValue a_draftOpenAt a_draftCloseAt a_enclosing a_trialLength : Nat → Int32}
theorem sn_xalvl {post : Int32 → Prop} (P : sn_PI c 0 st K V S oa ca sg dp pa) (XS : sn_XS c K V oa ca a_itemKind a_itemValue a_openAt a_closeAt) (s : Nat)
    (ht : sn_AL oa ca a_typedLength s → post 1) (hf : ¬ sn_AL oa ca a_typedLength s → post 0) :
    ∀ m k n, k + m = 10 → 1 ≤ k → m < n → (∀ t, 1 ≤ t → t < k → ¬ (a_typedLength t ≠ -1 ∧ oa t < oa s ∧ oa s < ca t)) → wX_isAlive_9 post (sn_o (oa s)) f_capacity f_historyCap f_length f_caret f_selStart f_bodyLength f_undoDepth f_merge f_itemCount f_baseLength f_basePos f_activeStop f_selected f_draftCount f_depth f_readAt a_text a_body a_history a_itemKind a_itemValue a_openAt a_closeAt a_base a_typedLength a_typedText a_draftKind a_draftValue a_draftOpenAt a_draftCloseAt a_enclosing a_trialLength n (nI k) := by
  have bs := sn_clB P s
  intro m
  induction m with
  | zero =>
    intro k n hi h1 hn hk
    obtain ⟨n, rfl⟩ : ∃ k, n = k + 1 := ⟨n - 1, by omega⟩
    obtain rfl : k = 10 := by omega
    refine br_t (by decide) ?_
    by_cases z : oa s = 1000
    · exact br_t ((sn_oM bs.1).mpr z) (hf (fun w => w.1 z))
    · exact br_f (fun w => z ((sn_oM bs.1).mp w)) (ht ⟨z, fun ⟨t, t1, t9, tl, _, to, tc⟩ => hk t t1 (by omega) ⟨tl, to, tc⟩⟩)
  | succ m ih =>
    intro k n hi h1 hn hk
    obtain ⟨n, rfl⟩ : ∃ k, n = k + 1 := ⟨n - 1, by omega⟩
    have ck : (nI k).toNatClampNeg = k := nI_clamp (by omega)
    have v10 : vp_in (nI k) 10 := vp_in_nI (by omega) (by omega)
    have bk := sn_clB P k
    have cont : ¬ (a_typedLength k ≠ -1 ∧ oa k < oa s ∧ oa s < ca k) → ∀ y : Int32, y = nI k + 1 → wX_isAlive_9 post (sn_o (oa s)) f_capacity f_historyCap f_length f_caret f_selStart f_bodyLength f_undoDepth f_merge f_itemCount f_baseLength f_basePos f_activeStop f_selected f_draftCount f_depth f_readAt a_text a_body a_history a_itemKind a_itemValue a_openAt a_closeAt a_base a_typedLength a_typedText a_draftKind a_draftValue a_draftOpenAt a_draftCloseAt a_enclosing a_trialLength n y := by
      intro z y ey
      rw [ey, nI_1]
      refine ih (k + 1) n (by omega) (by omega) (by omega) (fun t h2 h3 => ?_)
      by_cases e : t = k
      · rw [e]; exact z
      · exact hk t h2 (by omega)
    refine br_f (fun y => absurd ((nI_ltI (a := 9) (b := k) (by omega) (by omega)).mp y) (by omega)) ⟨v10, ?_⟩
    · rw [ck, XS.2.1 k (by omega), XS.2.2 k (by omega)]
      by_cases l : a_typedLength k = -1
      · exact br_t l (cont (fun z => z.1 l))
      · refine br_f l ⟨v10, ?_⟩
        by_cases z1 : sn_o (oa s) ≤ sn_o (oa k)
        · refine br_t z1 (cont (fun z => ?_))
          rw [sn_oLE bs.1 bk.1] at z1
          omega
        · refine br_f z1 ⟨v10, ?_⟩
          rw [sn_oLE bs.1 bk.1] at z1
          by_cases z2 : sn_o (ca k) ≤ sn_o (oa s)
          · refine br_t z2 (cont (fun z => ?_))
            rw [sn_oLE bk.2.1 bs.1] at z2
            omega
          · refine br_f z2 (hf (fun w => w.2 ⟨k, h1, by omega, l, by omega, ?_, ?_⟩))
            · rw [sn_oLE bk.2.1 bs.1] at z2
              have := w.1
              omega
            · rw [sn_oLE bk.2.1 bs.1] at z2
              have := w.1
              omega
theorem sn_xalv {post : Int32 → Prop} {x0 : Int32} (P : sn_PI c 0 st K V S oa ca sg dp pa) (XS : sn_XS c K V oa ca a_itemKind a_itemValue a_openAt a_closeAt) (s : Nat) (e0 : x0 = nI s) (h9 : s ≤ 9)
    (ht : sn_AL oa ca a_typedLength s → post 1) (hf : ¬ sn_AL oa ca a_typedLength s → post 0) : wpX_isAlive post (f_capacity, f_historyCap, f_length, f_caret, f_selStart, f_bodyLength, f_undoDepth, f_merge, f_itemCount, f_baseLength, f_basePos, f_activeStop, f_selected, f_draftCount, f_depth, f_readAt, a_text, a_body, a_history, a_itemKind, a_itemValue, a_openAt, a_closeAt, a_base, a_typedLength, a_typedText, a_draftKind, a_draftValue, a_draftOpenAt, a_draftCloseAt, a_enclosing, a_trialLength) x0 := by
  subst e0
  refine ⟨vp_in_nI (by omega) (by omega), ?_⟩
  intro y ey
  rw [nI_clamp (by omega), XS.2.1 s h9] at ey
  subst ey
  have w := sn_xalvl (post := post) (f_capacity := f_capacity) (f_historyCap := f_historyCap) (f_length := f_length) (f_caret := f_caret) (f_selStart := f_selStart) (f_bodyLength := f_bodyLength) (f_undoDepth := f_undoDepth) (f_merge := f_merge) (f_itemCount := f_itemCount) (f_baseLength := f_baseLength) (f_basePos := f_basePos) (f_activeStop := f_activeStop) (f_selected := f_selected) (f_draftCount := f_draftCount) (f_depth := f_depth) (f_readAt := f_readAt) (a_text := a_text) (a_body := a_body) (a_history := a_history) (a_itemKind := a_itemKind) (a_itemValue := a_itemValue) (a_openAt := a_openAt) (a_closeAt := a_closeAt) (a_base := a_base) (a_typedLength := a_typedLength) (a_typedText := a_typedText) (a_draftKind := a_draftKind) (a_draftValue := a_draftValue) (a_draftOpenAt := a_draftOpenAt) (a_draftCloseAt := a_draftCloseAt) (a_enclosing := a_enclosing) (a_trialLength := a_trialLength) P XS s ht hf 9 1 10 (by omega) (by omega) (by omega) (fun t h1 h2 => absurd h1 (by omega))
  exact ⟨10, w⟩
theorem sn_xaft {post : Int32 → Prop} {x0 : Int32} (P : sn_PI c 0 st K V S oa ca sg dp pa) (XS : sn_XS c K V oa ca a_itemKind a_itemValue a_openAt a_closeAt) (f : Nat) (e0 : x0 = nI f) (hf9 : f ≤ 9)
    (ha : ∀ a, f < a → a ≤ 9 → sn_AL oa ca a_typedLength a → (∀ t, f < t → t < a → ¬ sn_AL oa ca a_typedLength t) → post (nI a))
    (hn : (∀ t, f < t → t ≤ 9 → ¬ sn_AL oa ca a_typedLength t) → post (-1)) : wpX_aliveAfter post (f_capacity, f_historyCap, f_length, f_caret, f_selStart, f_bodyLength, f_undoDepth, f_merge, f_itemCount, f_baseLength, f_basePos, f_activeStop, f_selected, f_draftCount, f_depth, f_readAt, a_text, a_body, a_history, a_itemKind, a_itemValue, a_openAt, a_closeAt, a_base, a_typedLength, a_typedText, a_draftKind, a_draftValue, a_draftOpenAt, a_draftCloseAt, a_enclosing, a_trialLength) x0 := by
  subst e0
  intro y ey
  rw [nI_1] at ey
  subst ey
  have go : ∀ m k n, k + m = 10 → f < k → m < n → (∀ t, f < t → t < k → ¬ sn_AL oa ca a_typedLength t) → wX_aliveAfter_4 post f_capacity f_historyCap f_length f_caret f_selStart f_bodyLength f_undoDepth f_merge f_itemCount f_baseLength f_basePos f_activeStop f_selected f_draftCount f_depth f_readAt a_text a_body a_history a_itemKind a_itemValue a_openAt a_closeAt a_base a_typedLength a_typedText a_draftKind a_draftValue a_draftOpenAt a_draftCloseAt a_enclosing a_trialLength n (nI k) := by
    intro m
    induction m with
    | zero =>
      intro k n hi h1 h2 hk
      obtain ⟨n, rfl⟩ : ∃ k, n = k + 1 := ⟨n - 1, by omega⟩
      obtain rfl : k = 10 := by omega
      exact br_t (by decide) (hn (fun t h3 h4 => hk t h3 (by omega)))
    | succ m ih =>
      intro k n hi h1 h2 hk
      obtain ⟨n, rfl⟩ : ∃ k, n = k + 1 := ⟨n - 1, by omega⟩
      refine br_f (fun y => absurd ((nI_ltI (a := 9) (b := k) (by omega) (by omega)).mp y) (by omega)) ?_
      refine sn_xalv P XS k rfl (by omega) (fun z => ?_) (fun z => ?_)
      · exact br_f (by decide) (ha k h1 (by omega) z hk)
      · refine br_t rfl (fun y ey => ?_)
        rw [ey, nI_1]
        refine ih (k + 1) n (by omega) (by omega) (by omega) (fun t h3 h4 => ?_)
        by_cases e : t = k
        · rw [e]; exact z
        · exact hk t h3 (by omega)
  exact ⟨10 - f, go (9 - f) (f + 1) (10 - f) (by omega) (by omega) (by omega) (fun t h1 h2 => absurd h1 (by omega))⟩
theorem sn_xbef {post : Int32 → Prop} {x0 : Int32} (P : sn_PI c 0 st K V S oa ca sg dp pa) (XS : sn_XS c K V oa ca a_itemKind a_itemValue a_openAt a_closeAt) (f : Nat) (e0 : x0 = nI f) (hf1 : 1 ≤ f) (hf9 : f ≤ 9)
    (ha : ∀ a, 1 ≤ a → a < f → sn_AL oa ca a_typedLength a → (∀ t, a < t → t < f → ¬ sn_AL oa ca a_typedLength t) → post (nI a))
    (hn : (∀ t, 1 ≤ t → t < f → ¬ sn_AL oa ca a_typedLength t) → post (-1)) : wpX_aliveBefore post (f_capacity, f_historyCap, f_length, f_caret, f_selStart, f_bodyLength, f_undoDepth, f_merge, f_itemCount, f_baseLength, f_basePos, f_activeStop, f_selected, f_draftCount, f_depth, f_readAt, a_text, a_body, a_history, a_itemKind, a_itemValue, a_openAt, a_closeAt, a_base, a_typedLength, a_typedText, a_draftKind, a_draftValue, a_draftOpenAt, a_draftCloseAt, a_enclosing, a_trialLength) x0 := by
  subst e0
  intro y ey
  rw [sn_sb f 1 hf1 rfl] at ey
  subst ey
  have go : ∀ k n, k < f → k < n → (∀ t, k < t → t < f → ¬ sn_AL oa ca a_typedLength t) → wX_aliveBefore_4 post f_capacity f_historyCap f_length f_caret f_selStart f_bodyLength f_undoDepth f_merge f_itemCount f_baseLength f_basePos f_activeStop f_selected f_draftCount f_depth f_readAt a_text a_body a_history a_itemKind a_itemValue a_openAt a_closeAt a_base a_typedLength a_typedText a_draftKind a_draftValue a_draftOpenAt a_draftCloseAt a_enclosing a_trialLength n (nI k) := by
    intro k
    induction k with
    | zero =>
      intro n h1 h2 hk
      obtain ⟨n, rfl⟩ : ∃ k, n = k + 1 := ⟨n - 1, by omega⟩
      exact br_t (by decide) (hn (fun t h3 h4 => hk t (by omega) h4))
    | succ k ih =>
      intro n h1 h2 hk
      obtain ⟨n, rfl⟩ : ∃ k, n = k + 1 := ⟨n - 1, by omega⟩
      refine br_f (fun y => absurd ((nI_ltI (a := k + 1) (b := 1) (by omega) (by omega)).mp y) (by omega)) ?_
      refine sn_xalv P XS (k + 1) rfl (by omega) (fun z => ?_) (fun z => ?_)
      · exact br_f (by decide) (ha (k + 1) (by omega) h1 z hk)
      · refine br_t rfl (fun y ey => ?_)
        rw [ey, pk_m1]
        refine ih n (by omega) (by omega) (fun t h3 h4 => ?_)
        by_cases e : t = k + 1
        · rw [e]; exact z
        · exact hk t (by omega) h4
  exact ⟨f, go (f - 1) f (by omega) (by omega) (fun t h1 h2 => absurd h1 (by omega))⟩
theorem sn_xsel {post : SX → Prop} {x0 : Int32} (P : sn_PI c 0 st K V S oa ca sg dp pa) (hc : c ≤ 65) (XS : sn_XS c K V oa ca a_itemKind a_itemValue a_openAt a_closeAt) (hL : sn_LL a_typedLength) (T : Nat → Int32) (bp s : Nat) (e0 : x0 = nI s) (h1 : 1 ≤ s) (h9 : s ≤ 9) (hs : oa s < c)
    (h : post (f_capacity, f_historyCap, f_length, nI (bp + (sn_rr K V S oa ca a_typedLength T (ca s)).length), nI (bp + (sn_rr K V S oa ca a_typedLength T (oa s)).length), f_bodyLength, f_undoDepth, f_merge, f_itemCount, f_baseLength, nI bp, nI s, 1, f_draftCount, f_depth, f_readAt, a_text, a_body, a_history, a_itemKind, a_itemValue, a_openAt, a_closeAt, a_base, a_typedLength, a_typedText, a_draftKind, a_draftValue, a_draftOpenAt, a_draftCloseAt, a_enclosing, a_trialLength)) :
    wpX_select post (f_capacity, f_historyCap, f_length, f_caret, f_selStart, f_bodyLength, f_undoDepth, f_merge, f_itemCount, f_baseLength, nI bp, f_activeStop, f_selected, f_draftCount, f_depth, f_readAt, a_text, a_body, a_history, a_itemKind, a_itemValue, a_openAt, a_closeAt, a_base, a_typedLength, a_typedText, a_draftKind, a_draftValue, a_draftOpenAt, a_draftCloseAt, a_enclosing, a_trialLength) x0 := by
  subst e0
  have h0 := P.1
  have q : oa s < ca s ∧ ca s < c := by rcases sn_clo P s with a | a | a <;> omega
  have v10 : vp_in (nI s) 10 := vp_in_nI (by omega) (by omega)
  refine ⟨v10, ?_⟩
  rw [nI_clamp (show s < 2 ^ 31 by omega)]
  refine sn_xpos P hc XS hL T bp (oa s) (by rw [XS.2.1 _ h9, sn_o1 (by omega)]) (by omega) ⟨v10, ?_⟩
  exact sn_xpos P hc XS hL T bp (ca s) (by rw [XS.2.2 _ h9, sn_o1 (by omega)]) (by omega) h
/-- to the next alive stop, or to the final one -/
theorem sn_xgo {post : SX → Prop} {x0 : Int32} (P : sn_PI c 0 st K V S oa ca sg dp pa) (hc : c ≤ 65) (h00 : oa 0 < c) (XS : sn_XS c K V oa ca a_itemKind a_itemValue a_openAt a_closeAt) (hL : sn_LL a_typedLength) (T : Nat → Int32) (bp f : Nat) (e0 : x0 = nI f) (hf9 : f ≤ 9)
    (ha : ∀ a, f < a → a ≤ 9 → sn_AL oa ca a_typedLength a → (∀ t, f < t → t < a → ¬ sn_AL oa ca a_typedLength t) → post (f_capacity, f_historyCap, f_length, nI (bp + (sn_rr K V S oa ca a_typedLength T (ca a)).length), nI (bp + (sn_rr K V S oa ca a_typedLength T (oa a)).length), f_bodyLength, f_undoDepth, f_merge, f_itemCount, f_baseLength, nI bp, nI a, 1, f_draftCount, f_depth, f_readAt, a_text, a_body, a_history, a_itemKind, a_itemValue, a_openAt, a_closeAt, a_base, a_typedLength, a_typedText, a_draftKind, a_draftValue, a_draftOpenAt, a_draftCloseAt, a_enclosing, a_trialLength))
    (hn : (∀ t, f < t → t ≤ 9 → ¬ sn_AL oa ca a_typedLength t) → post (f_capacity, f_historyCap, f_length, nI (bp + (sn_rr K V S oa ca a_typedLength T (oa 0)).length), nI (bp + (sn_rr K V S oa ca a_typedLength T (oa 0)).length), f_bodyLength, f_undoDepth, f_merge, f_itemCount, f_baseLength, nI bp, (-1), f_selected, f_draftCount, f_depth, f_readAt, a_text, a_body, a_history, a_itemKind, a_itemValue, a_openAt, a_closeAt, a_base, a_typedLength, a_typedText, a_draftKind, a_draftValue, a_draftOpenAt, a_draftCloseAt, a_enclosing, a_trialLength)) :
    wpX_goToStopAfter post (f_capacity, f_historyCap, f_length, f_caret, f_selStart, f_bodyLength, f_undoDepth, f_merge, f_itemCount, f_baseLength, nI bp, f_activeStop, f_selected, f_draftCount, f_depth, f_readAt, a_text, a_body, a_history, a_itemKind, a_itemValue, a_openAt, a_closeAt, a_base, a_typedLength, a_typedText, a_draftKind, a_draftValue, a_draftOpenAt, a_draftCloseAt, a_enclosing, a_trialLength) x0 := by
  have h0 := P.1
  refine sn_xaft P XS f e0 hf9 (fun a h1 h9 al ht => ?_) (fun ht => ?_)
  · have oc : oa a < c := by
      have := al.1
      rcases sn_clo P a with z | z | z <;> omega
    refine br_f (sn_nm1 (by omega)) ?_
    exact sn_xsel P hc XS hL T bp a rfl (by omega) h9 oc (ha a h1 h9 al ht)
  · refine br_t rfl ?_
    exact sn_xpos P hc XS hL T bp (oa 0) (by rw [XS.2.1 0 (by omega), sn_o1 (by omega)]) (by omega) (hn ht)
end SNO
