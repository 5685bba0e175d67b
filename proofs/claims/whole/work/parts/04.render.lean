section SND
/-! the pure render -/
variable {K S oa ca sg dp pa st : Nat → Nat} {V L T L' T' : Nat → Int32} {c f x i h n : Nat}
noncomputable def sn_if {α : Type} (p : Prop) (a b : α) : α := @ite α p (Classical.propDecidable p) a b
theorem sn_ifT {α : Type} {p : Prop} {a b : α} (h : p) : sn_if p a b = a := by unfold sn_if; exact if_pos h
theorem sn_ifF {α : Type} {p : Prop} {a b : α} (h : ¬ p) : sn_if p a b = b := by unfold sn_if; exact if_neg h
/-- hidden from f on: a typed stop that opens at f or behind it, round x -/
def sn_hid (oa ca : Nat → Nat) (L : Nat → Int32) (f x : Nat) : Prop := ∃ s, 1 ≤ s ∧ s ≤ 9 ∧ L s ≠ -1 ∧ f ≤ oa s ∧ oa s < x ∧ x < ca s
/-- the typed text of stop s -/
def sn_ty (L T : Nat → Int32) (s : Nat) : List Int32 := sn_ls (fun k => T (s * 8 + k)) (L s).toNatClampNeg
theorem sn_tyL {s : Nat} : (sn_ty L T s).length = (L s).toNatClampNeg := sn_lsL
/-- what an item other than a mirror shows -/
noncomputable def sn_out (K : Nat → Nat) (V : Nat → Int32) (S oa ca : Nat → Nat) (L T : Nat → Int32) (f x : Nat) : List Int32 :=
  sn_if (sn_hid oa ca L f x) [] (if K x = 0 then [V x] else sn_if (K x = 1 ∧ L (S x) ≠ -1) (sn_ty L T (S x)) [])
noncomputable def sn_sp (K : Nat → Nat) (V : Nat → Int32) (S oa ca : Nat → Nat) (L T : Nat → Int32) (f : Nat) : Nat → List Int32
  | 0 => []
  | n + 1 => sn_sp K V S oa ca L T f n ++ sn_out K V S oa ca L T f (f + n)
/-- a primary's text -/
noncomputable def sn_pt (K : Nat → Nat) (V : Nat → Int32) (S oa ca : Nat → Nat) (L T : Nat → Int32) (s : Nat) : List Int32 := sn_sp K V S oa ca L T (oa s) (ca s - oa s)
def sn_up (c : Int32) : Int32 := if 97 ≤ c ∧ c ≤ 122 then c - 32 else c
def sn_lo (c : Int32) : Int32 := if 65 ≤ c ∧ c ≤ 90 then c + 32 else c
def sn_tc (k j : Nat) (c : Int32) : Int32 := if k = 5 then sn_up c else if k = 6 then sn_lo c else if k = 7 ∧ j = 0 then sn_up c else c
def sn_tr (k : Nat) (l : List Int32) : List Int32 := sn_ls (fun j => sn_tc k j (sn_at l j)) l.length
theorem sn_trL {k : Nat} {l : List Int32} : (sn_tr k l).length = l.length := sn_lsL
/-- the first x items -/
noncomputable def sn_rr (K : Nat → Nat) (V : Nat → Int32) (S oa ca : Nat → Nat) (L T : Nat → Int32) : Nat → List Int32
  | 0 => []
  | x + 1 => sn_rr K V S oa ca L T x ++ (if 4 ≤ K x then sn_tr (K x) (sn_pt K V S oa ca L T (S x)) else sn_out K V S oa ca L T 0 x)
theorem sn_outH (h : sn_hid oa ca L f x) : sn_out K V S oa ca L T f x = [] := by unfold sn_out; exact sn_ifT h
theorem sn_out0 (h : ¬ sn_hid oa ca L f x) (k : K x = 0) : sn_out K V S oa ca L T f x = [V x] := by unfold sn_out; rw [sn_ifF h, if_pos k]
theorem sn_out1 (h : ¬ sn_hid oa ca L f x) (k : K x = 1) (l : L (S x) ≠ -1) : sn_out K V S oa ca L T f x = sn_ty L T (S x) := by
  unfold sn_out; rw [sn_ifF h, if_neg (by omega), sn_ifT ⟨k, l⟩]
theorem sn_out2 (k : K x ≠ 0) (l : ¬ (K x = 1 ∧ L (S x) ≠ -1)) : sn_out K V S oa ca L T f x = [] := by
  by_cases h : sn_hid oa ca L f x
  · exact sn_outH h
  · unfold sn_out; rw [sn_ifF h, if_neg k, sn_ifF l]
theorem sn_outC (h : sn_hid oa ca L f x ↔ sn_hid oa ca L i x) : sn_out K V S oa ca L T f x = sn_out K V S oa ca L T i x := by
  by_cases z : sn_hid oa ca L f x
  · rw [sn_outH z, sn_outH (h.mp z)]
  · unfold sn_out; rw [sn_ifF z, sn_ifF (fun y => z (h.mpr y))]
/-! X's hiddenUpTo -/
def sn_HU (oa ca : Nat → Nat) (L : Nat → Int32) (f i h : Nat) : Prop :=
  (∀ x, i ≤ x → (x < h ↔ ∃ s, 1 ≤ s ∧ s ≤ 9 ∧ L s ≠ -1 ∧ f ≤ oa s ∧ oa s < i ∧ x < ca s)) ∧ (h ≤ i ∨ ∃ s, oa s < i ∧ h = ca s)
theorem sn_hu0 : sn_HU oa ca L f f f := by
  refine ⟨fun x hx => ⟨fun z => by omega, fun ⟨s, _, _, _, a, b, _⟩ => by omega⟩, Or.inl (Nat.le_refl _)⟩
theorem sn_huH (H : sn_HU oa ca L f i h) : i < h ↔ sn_hid oa ca L f i := H.1 i (Nat.le_refl _)
theorem sn_huA (hA : sn_IA c K S oa ca) (hD : sn_ID oa ca) (hi : i < 1000) (H : sn_HU oa ca L f i h) (z : i < h ∨ ¬ (K i = 1 ∧ L (S i) ≠ -1)) : sn_HU oa ca L f (i + 1) h := by
  refine ⟨fun x hx => ⟨fun y => ?_, fun ⟨s, h1, h9, hl, hf, ho, hx2⟩ => ?_⟩, ?_⟩
  · obtain ⟨s, h1, h9, hl, hf, ho, hx2⟩ := (H.1 x (by omega)).mp y
    exact ⟨s, h1, h9, hl, hf, by omega, hx2⟩
  · by_cases e : oa s = i
    · have ks : K i = 1 ∧ S i = s := by
        rw [← e]
        rcases hA s with a | a | a | a
        · omega
        · omega
        · exact ⟨a.2.2.2.1, a.2.2.2.2.1⟩
        · exact ⟨a.2.2.2.2.1, a.2.2.2.2.2.1⟩
      rcases z with z | z
      · rcases H.2 with w | ⟨t, ht, hh⟩
        · omega
        · have q := hD t s (by omega) (by omega) (by omega)
          omega
      · exact absurd ⟨ks.1, by rw [ks.2]; exact hl⟩ z
    · exact (H.1 x (by omega)).mpr ⟨s, h1, h9, hl, hf, by omega, hx2⟩
  · rcases H.2 with w | ⟨t, ht, hh⟩
    · exact Or.inl (by omega)
    · exact Or.inr ⟨t, by omega, hh⟩
theorem sn_huB (hA : sn_IA c K S oa ca) (hB : sn_IB c K S oa ca) (hi : i < c) (hc : c < 1000) (hf : f ≤ i) (H : sn_HU oa ca L f i h) (z : h ≤ i) (k : K i = 1) (l : L (S i) ≠ -1) : sn_HU oa ca L f (i + 1) (ca (S i)) := by
  have q : 1 ≤ S i ∧ S i ≤ 9 ∧ oa (S i) = i := by
    rcases hB i hi with a | a | a | a | a
    · omega
    · exact a.2
    · omega
    · omega
    · omega
  refine ⟨fun x hx => ⟨fun y => ⟨S i, q.1, q.2.1, l, by omega, by omega, y⟩, fun ⟨s, h1, h9, hl, hf', ho, hx2⟩ => ?_⟩, Or.inr ⟨S i, by omega, rfl⟩⟩
  by_cases e : oa s = i
  · have ks : S i = s := by
      rw [← e]
      rcases hA s with a | a | a | a
      · omega
      · omega
      · exact a.2.2.2.2.1
      · exact a.2.2.2.2.2.1
    rw [ks]; exact hx2
  · have w := (H.1 x (by omega)).mpr ⟨s, h1, h9, hl, hf', by omega, hx2⟩
    omega
/-! where hidden from f on is hidden -/
theorem sn_hidP {s : Nat} (ha : ¬ sn_hid oa ca L 0 (oa s)) (hx : oa s ≤ x) : sn_hid oa ca L (oa s) x ↔ sn_hid oa ca L 0 x := by
  constructor
  · exact fun ⟨t, h1, h2, h3, _, h5, h6⟩ => ⟨t, h1, h2, h3, by omega, h5, h6⟩
  · intro ⟨t, h1, h2, h3, h4, h5, h6⟩
    refine ⟨t, h1, h2, h3, ?_, h5, h6⟩
    by_cases z : oa s ≤ oa t
    · exact z
    · exact absurd ⟨t, h1, h2, h3, h4, by omega, by omega⟩ ha
theorem sn_rrS (hh : ∀ x, f ≤ x → x < f + n → K x < 4 ∧ (sn_hid oa ca L f x ↔ sn_hid oa ca L 0 x)) : sn_rr K V S oa ca L T (f + n) = sn_rr K V S oa ca L T f ++ sn_sp K V S oa ca L T f n := by
  induction n with
  | zero => exact (List.append_nil _).symm
  | succ n ih =>
    have q := hh (f + n) (by omega) (by omega)
    show sn_rr K V S oa ca L T (f + n + 1) = _
    rw [sn_rr, sn_sp, ih (fun x h1 h2 => hh x h1 (by omega)), if_neg (by omega), sn_outC q.2, List.append_assoc]
/-- the mirrors' part of the length -/
noncomputable def sn_ms (K : Nat → Nat) (V : Nat → Int32) (S oa ca : Nat → Nat) (L T : Nat → Int32) : Nat → Nat
  | 0 => 0
  | x + 1 => sn_ms K V S oa ca L T x + (if 4 ≤ K x then (sn_pt K V S oa ca L T (S x)).length else 0)
theorem sn_rrL : (sn_rr K V S oa ca L T x).length = (sn_sp K V S oa ca L T 0 x).length + sn_ms K V S oa ca L T x := by
  induction x with
  | zero => rfl
  | succ x ih =>
    rw [sn_rr, sn_sp, sn_ms, List.length_append, List.length_append, ih, Nat.zero_add]
    by_cases k : 4 ≤ K x
    · rw [if_pos k, if_pos k, sn_trL, sn_out2 (by omega) (by omega)]
      show _ = _ + 0 + _
      omega
    · rw [if_neg k, if_neg k]; omega
theorem sn_rrM : ∀ n, (sn_rr K V S oa ca L T x).length ≤ (sn_rr K V S oa ca L T (x + n)).length := by
  intro n
  induction n with
  | zero => exact Nat.le_refl _
  | succ n ih =>
    show _ ≤ (sn_rr K V S oa ca L T (x + n + 1)).length
    rw [sn_rr, List.length_append]; omega
/-! bounds -/
def sn_q (oa : Nat → Nat) (x : Nat) : Nat := sn_sm (fun s => if oa s < x then 8 else 0) 10
theorem sn_qB (oa : Nat → Nat) (x : Nat) : sn_q oa x ≤ 80 := by
  have a := sn_smLe (f := fun s => if oa s < x then 8 else 0) (g := fun _ => 8) (n := 10) (fun k _ => by
    show (if oa k < x then 8 else 0) ≤ 8
    split <;> omega)
  exact Nat.le_trans a (by decide)
theorem sn_q1 (oa : Nat → Nat) (x : Nat) : sn_q oa x ≤ sn_q oa (x + 1) := by
  refine sn_smLe (fun k _ => ?_)
  show (if oa k < x then 8 else 0) ≤ (if oa k < x + 1 then 8 else 0)
  split
  · rw [if_pos (by omega)]; exact Nat.le_refl _
  · exact Nat.zero_le _
theorem sn_q8 {s : Nat} (hs : s < 10) (e : oa s = x) : sn_q oa x + 8 ≤ sn_q oa (x + 1) := by
  refine sn_smLt (fun k _ => ?_) hs ?_
  · show (if oa k < x then 8 else 0) ≤ (if oa k < x + 1 then 8 else 0)
    split
    · rw [if_pos (by omega)]; exact Nat.le_refl _
    · exact Nat.zero_le _
  · show (if oa s < x then 8 else 0) + 8 ≤ (if oa s < x + 1 then 8 else 0)
    rw [if_neg (by omega), if_pos (by omega)]; exact Nat.le_refl _
theorem sn_outB (hB : sn_IB c K S oa ca) (hx : x < c) (h8 : ∀ s, s ≤ 9 → (L s).toNatClampNeg ≤ 8) : (sn_out K V S oa ca L T f x).length + sn_q oa x ≤ 1 + sn_q oa (x + 1) := by
  have q := sn_q1 oa x
  by_cases h : sn_hid oa ca L f x
  · rw [sn_outH h]; show 0 + _ ≤ _; omega
  · by_cases k : K x = 0
    · rw [sn_out0 h k]; show 1 + _ ≤ _; omega
    · by_cases l : K x = 1 ∧ L (S x) ≠ -1
      · rw [sn_out1 h l.1 l.2, sn_tyL]
        rcases hB x hx with a | a | a | a | a
        · omega
        · have b := h8 (S x) a.2.2.1
          have d := sn_q8 (oa := oa) (s := S x) (x := x) (by omega) a.2.2.2
          omega
        · omega
        · omega
        · omega
      · rw [sn_out2 k l]; show 0 + _ ≤ _; omega
theorem sn_spB (hB : sn_IB c K S oa ca) (h8 : ∀ s, s ≤ 9 → (L s).toNatClampNeg ≤ 8) (hx : f + n ≤ c) : (sn_sp K V S oa ca L T f n).length + sn_q oa f ≤ n + sn_q oa (f + n) := by
  induction n with
  | zero => show 0 + _ ≤ 0 + _; exact Nat.le_refl _
  | succ n ih =>
    have a := ih (by omega)
    have b := sn_outB (V := V) (T := T) (f := f) hB (show f + n < c by omega) h8
    rw [sn_sp, List.length_append]
    show _ ≤ n + 1 + sn_q oa (f + n + 1)
    omega
theorem sn_spB' (hB : sn_IB c K S oa ca) (h8 : ∀ s, s ≤ 9 → (L s).toNatClampNeg ≤ 8) (hx : f + n ≤ c) : (sn_sp K V S oa ca L T f n).length ≤ n + 80 := by
  have a := sn_spB (V := V) (T := T) hB h8 hx
  have b := sn_qB oa (f + n)
  omega
/-! fewer typed characters, or newly typed as empty: nothing grows -/
theorem sn_m1n : (-1 : Int32).toNatClampNeg = 0 := by decide
theorem sn_outM (hB : sn_IB c K S oa ca) (hx : x < c) (h1 : ∀ s, s ≤ 9 → L s ≠ -1 → L' s ≠ -1) (h2 : ∀ s, s ≤ 9 → (L' s).toNatClampNeg ≤ (L s).toNatClampNeg) : (sn_out K V S oa ca L' T' f x).length ≤ (sn_out K V S oa ca L T f x).length := by
  have s9 : S x ≤ 9 := by rcases hB x hx with a | a | a | a | a <;> omega
  by_cases h' : sn_hid oa ca L' f x
  · rw [sn_outH h']; exact Nat.zero_le _
  · have h : ¬ sn_hid oa ca L f x := fun ⟨s, a1, a2, a3, a4⟩ => h' ⟨s, a1, a2, h1 s a2 a3, a4⟩
    by_cases k : K x = 0
    · rw [sn_out0 h' k, sn_out0 h k]; exact Nat.le_refl _
    · by_cases l' : K x = 1 ∧ L' (S x) ≠ -1
      · rw [sn_out1 h' l'.1 l'.2, sn_tyL]
        have q := h2 (S x) s9
        by_cases l : L (S x) = -1
        · rw [l, sn_m1n] at q; omega
        · rw [sn_out1 h l'.1 l, sn_tyL]; exact q
      · rw [sn_out2 k l']; exact Nat.zero_le _
theorem sn_spM (hB : sn_IB c K S oa ca) (hn : f + n ≤ c) (h1 : ∀ s, s ≤ 9 → L s ≠ -1 → L' s ≠ -1) (h2 : ∀ s, s ≤ 9 → (L' s).toNatClampNeg ≤ (L s).toNatClampNeg) : (sn_sp K V S oa ca L' T' f n).length ≤ (sn_sp K V S oa ca L T f n).length := by
  induction n with
  | zero => exact Nat.le_refl _
  | succ n ih =>
    have a := sn_outM (V := V) (T := T) (T' := T') (f := f) (x := f + n) hB (by omega) h1 h2
    have b := ih (by omega)
    rw [sn_sp, sn_sp, List.length_append, List.length_append]; omega
end SND
