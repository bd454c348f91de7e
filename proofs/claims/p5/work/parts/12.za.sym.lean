noncomputable section
-- ===== what comes to an end: a symbolic run over unknowns with intervals, checked by the kernel =====
/-- a value: kind (0 int, 1 long, 2 reference), unknown, offset -/
abbrev eV : Type := Nat × Nat × Int
/-- what is known of an unknown: an interval, or the type of the cell with that number -/
abbrev eE : Type := (Int × Int) ⊕ Nat
/-- a place: the cell (unknown, offset); 0 field, 1 element; field number or the index (unknown, offset) -/
abbrev eK : Type := (Nat × Int) × Nat × Nat × Int
/-- a layout: an array (kind, length, segments) or an object (class, its fields) -/
abbrev eL : Type := (Nat × Nat × List (Nat × eE)) ⊕ (Nat × List (Nat × eE))
/-- layouts by type, types by cell -/
abbrev eZ : Type := (Nat → Option eL) × (Nat → Option Nat)
/-- locals, stack, places, what is known, how many unknowns -/
abbrev eS : Type := List (Nat × eV) × List eV × List (eK × eV) × List (Nat × eE) × Nat
def eg {α : Type} (l : List (Nat × α)) (i : Nat) : Option α := List.rec (motive := fun _ => Option α) none (fun q _ ih => match Nat.beq q.1 i with
  | true => some q.2
  | false => ih) l
theorem eg_mem {α : Type} {l : List (Nat × α)} {i : Nat} {v : α} (h : eg l i = some v) : (i, v) ∈ l := by
  induction l with
  | nil => cases h
  | cons q r ih =>
    have h : (match Nat.beq q.1 i with
      | true => some q.2
      | false => eg r i) = some v := h
    split at h
    · rename_i e
      cases h
      rw [← Nat.eq_of_beq_eq_true e]
      exact List.mem_cons_self
    · exact List.mem_cons_of_mem _ (ih h)
def zle (a b : Int) : Bool := match b - a with
  | .ofNat _ => true
  | .negSucc _ => false
theorem zle_iff {a b : Int} : zle a b = true ↔ a ≤ b := by
  unfold zle
  split
  · rename_i n e
    simp only [true_iff]
    have : b - a = (n : Int) := e
    omega
  · rename_i n e
    have : b - a = Int.negSucc n := e
    rw [Int.negSucc_eq] at this
    constructor
    · intro h; cases h
    · intro h; omega
theorem zle_ff {a b : Int} (h : zle a b = false) : b < a := by
  rcases Int.lt_or_le b a with h1 | h1
  · exact h1
  · rw [zle_iff.mpr h1] at h; cases h
def zeq (a b : Int) : Bool := match zle a b with
  | true => zle b a
  | false => false
theorem zeq_iff {a b : Int} : zeq a b = true ↔ a = b := by
  unfold zeq
  split
  · rename_i h
    rw [zle_iff] at h ⊢
    omega
  · rename_i h
    have := zle_ff h
    constructor
    · intro z; cases z
    · intro z; omega
def evOk (Z : eZ) (z : Int) (e : eE) : Prop := match e with
  | .inl q => q.1 ≤ z ∧ z ≤ q.2
  | .inr t => ∃ k : Nat, z = (k : Int) ∧ Z.2 k = some t
def vOk (kd : Nat) (z : Int) (v : Value) : Prop := match kd with
  | 0 => ∃ x : Int32, v = .int x ∧ x.toInt = z
  | 1 => ∃ x : Int64, v = .long x ∧ x.toInt = z
  | _ => ∃ k : Nat, v = .ref k ∧ (k : Int) = z
def avOk (σ : List Int) (a : eV) (v : Value) : Prop := ∃ z, σ[a.2.1]? = some z ∧ vOk a.1 (z + a.2.2) v
def fvOk (Z : eZ) (ft : Nat × eE) (v : Value) : Prop := ∃ z, vOk ft.1 z v ∧ evOk Z z ft.2
/-- which segment an element lies in -/
def sga (sg : List (Nat × eE)) (j : Nat) : Option eE := List.rec (motive := fun _ => Option eE) none (fun q _ ih => match Nat.blt j q.1 with
  | true => some q.2
  | false => ih) sg
/-- the kind of an array's elements -/
def akd (t : Nat) : Nat := match t with
  | 0 => 0
  | 1 => 0
  | 2 => 1
  | 3 => 0
  | _ => 2
def cellOk (Z : eZ) (ly : eL) (c : sC) : Prop := match ly with
  | .inl q => ∃ vs, c = .inl (q.1, vs) ∧ vs.length = q.2.1 ∧ ∀ (j : Nat) v, vs[j]? = some v → ∃ e, sga q.2.2 j = some e ∧ fvOk Z (akd q.1, e) v
  | .inr q => ∃ fs, c = .inr (q.1, fs) ∧ fs.length = q.2.length ∧ ∀ (j : Nat) v ft, fs[j]? = some v → q.2[j]? = some ft → fvOk Z ft v
def wOk (Z : eZ) (w : sW) : Prop := w.length ≤ 1000000 ∧ ∀ (k t : Nat), Z.2 k = some t → ∃ ly c, Z.1 t = some ly ∧ w[k]? = some c ∧ cellOk Z ly c
/-- a field as a number -/
def gF (w : sW) (c kf : Nat) : Int := match w[c]? with
  | some (.inr q) => match q.2[kf]? with
    | some (.int x) => x.toInt
    | _ => 0
  | _ => 0
/-- an element as a number -/
def gX (w : sW) (c j : Nat) : Int := match w[c]? with
  | some (.inl q) => match q.2[j]? with
    | some (.int x) => x.toInt
    | _ => 0
  | _ => 0
/-- a node of a sentence: what it points to lies below it -/
def ndG (w : sW) (c b i : Nat) : Prop := (gX w c (b + 4 * i) = 1 → 0 ≤ gX w c (b + 4 * i + 1) ∧ gX w c (b + 4 * i + 1) < (i : Int)) ∧ (gX w c (b + 4 * i) = 2 ∨ gX w c (b + 4 * i) = 3 → (0 ≤ gX w c (b + 4 * i + 1) ∧ gX w c (b + 4 * i + 1) < (i : Int)) ∧ (0 ≤ gX w c (b + 4 * i + 2) ∧ gX w c (b + 4 * i + 2) < (i : Int))) ∧ (70 ≤ gX w c (b + 4 * i) ∧ gX w c (b + 4 * i) ≤ 72 → 0 ≤ gX w c (b + 4 * i + 1) ∧ gX w c (b + 4 * i + 1) ≤ 11)
/-- the sentence of the reference, in now and in what is kept: TOP and the nodes up to it -/
def siG (w : sW) (c b : Nat) : Prop := ∀ i : Nat, (i : Int) ≤ gX w c (b + 197) → ndG w c (b + 198) i
/-- the sentences of the class: the number goes with the code -/
def okCN (c n : Int) : Prop := (c = 20 ∨ c = 21 → 0 ≤ n ∧ n ≤ 9) ∧ (c = 22 → 0 ≤ n ∧ n ≤ 11)
def snG (w : sW) (a b : Nat) : Prop := ∀ i : Nat, i < 40 → okCN (gX w a i) (gX w b i)
/-- a field that holds a reference -/
def gR (w : sW) (c kf : Nat) : Nat := match w[c]? with
  | some (.inr q) => match q.2[kf]? with
    | some (.ref k) => k
    | _ => 0
  | _ => 0
/-- the arrays of the class's sentences -/
def rfG (w : sW) : Prop := (gR w 31 0 = 32 ∧ gR w 31 2 = 34) ∧ (gR w 37 0 = 38 ∧ gR w 37 2 = 40) ∧ (gR w 184 0 = 185 ∧ gR w 184 2 = 187) ∧ (gR w 207 0 = 208 ∧ gR w 207 2 = 210)
def pRf (c kf : Nat) : Prop := (c = 31 ∨ c = 37 ∨ c = 184 ∨ c = 207) ∧ (kf = 0 ∨ kf = 2)
def PW (w : sW) : Prop := rfG w ∧ siG w 215 0 ∧ siG w 217 0 ∧ siG w 217 438 ∧ snG w 32 34 ∧ snG w 38 40 ∧ snG w 185 187 ∧ snG w 208 210
/-- what PW reads -/
def pRd (c j : Nat) : Prop := (c = 215 ∧ 196 ≤ j) ∨ c = 217 ∨ c = 32 ∨ c = 34 ∨ c = 38 ∨ c = 40 ∨ c = 185 ∨ c = 187 ∨ c = 208 ∨ c = 210
theorem siG_eq {w w' : sW} {c b : Nat} (h : ∀ j, 196 ≤ j → gX w' c j = gX w c j) (p : siG w c b) : siG w' c b := by
  intro i hi
  rw [h _ (by omega)] at hi
  have q := p i hi
  unfold ndG at q ⊢
  rw [h _ (by omega), h _ (by omega), h _ (by omega)]
  exact q
theorem snG_eq {w w' : sW} {a b : Nat} (h1 : ∀ j, gX w' a j = gX w a j) (h2 : ∀ j, gX w' b j = gX w b j) (p : snG w a b) : snG w' a b := by
  intro i hi
  rw [h1, h2]
  exact p i hi
theorem rfG_eq {w w' : sW} (h : ∀ c kf, pRf c kf → gR w' c kf = gR w c kf) (p : rfG w) : rfG w' := by
  unfold rfG at p ⊢
  rw [h 31 0 (by unfold pRf; omega), h 31 2 (by unfold pRf; omega), h 37 0 (by unfold pRf; omega), h 37 2 (by unfold pRf; omega), h 184 0 (by unfold pRf; omega), h 184 2 (by unfold pRf; omega), h 207 0 (by unfold pRf; omega), h 207 2 (by unfold pRf; omega)]
  exact p
theorem PW_eq {w w' : sW} (hf : ∀ c kf, pRf c kf → gR w' c kf = gR w c kf) (h : ∀ c j, pRd c j → gX w' c j = gX w c j) (p : PW w) : PW w' := by
  obtain ⟨p0, p1, p2, p3, p4, p5, p6, p7⟩ := p
  refine ⟨rfG_eq hf p0, siG_eq (fun j hj => h _ _ (Or.inl ⟨rfl, hj⟩)) p1, siG_eq (fun j _ => h _ _ (by unfold pRd; omega)) p2, siG_eq (fun j _ => h _ _ (by unfold pRd; omega)) p3, snG_eq (fun j => h _ _ (by unfold pRd; omega)) (fun j => h _ _ (by unfold pRd; omega)) p4, snG_eq (fun j => h _ _ (by unfold pRd; omega)) (fun j => h _ _ (by unfold pRd; omega)) p5, snG_eq (fun j => h _ _ (by unfold pRd; omega)) (fun j => h _ _ (by unfold pRd; omega)) p6, snG_eq (fun j => h _ _ (by unfold pRd; omega)) (fun j => h _ _ (by unfold pRd; omega)) p7⟩
/-- the types of the cells that PW reads -/
def pZ (Z : eZ) : Prop := Z.2 215 = some 63 ∧ Z.2 217 = some 65 ∧ (Z.2 32 = some 23 ∧ Z.2 38 = some 23 ∧ Z.2 185 = some 23 ∧ Z.2 208 = some 23) ∧ (Z.2 34 = some 25 ∧ Z.2 40 = some 25 ∧ Z.2 187 = some 25 ∧ Z.2 210 = some 25) ∧ (Z.2 31 = some 22 ∧ Z.2 37 = some 22 ∧ Z.2 184 = some 22 ∧ Z.2 207 = some 22)
def pTy (t : Nat) : Bool := match Nat.beq t 63 with
  | true => true
  | false => match Nat.beq t 65 with
    | true => true
    | false => match Nat.beq t 23 with
      | true => true
      | false => Nat.beq t 25
theorem pTy_of {Z : eZ} (hZ : pZ Z) {c j t : Nat} (h : pRd c j) (ht : Z.2 c = some t) : pTy t = true ∧ (t = 63 → 196 ≤ j) := by
  obtain ⟨z1, z2, ⟨z3, z4, z5, z6⟩, ⟨z7, z8, z9, z10⟩, _⟩ := hZ
  unfold pRd at h
  rcases h with ⟨rfl, h⟩ | rfl | rfl | rfl | rfl | rfl | rfl | rfl | rfl | rfl
  · rw [z1] at ht; cases ht; exact ⟨rfl, fun _ => h⟩
  · rw [z2] at ht; cases ht; exact ⟨rfl, fun z => by cases z⟩
  · rw [z3] at ht; cases ht; exact ⟨rfl, fun z => by cases z⟩
  · rw [z7] at ht; cases ht; exact ⟨rfl, fun z => by cases z⟩
  · rw [z4] at ht; cases ht; exact ⟨rfl, fun z => by cases z⟩
  · rw [z8] at ht; cases ht; exact ⟨rfl, fun z => by cases z⟩
  · rw [z5] at ht; cases ht; exact ⟨rfl, fun z => by cases z⟩
  · rw [z9] at ht; cases ht; exact ⟨rfl, fun z => by cases z⟩
  · rw [z6] at ht; cases ht; exact ⟨rfl, fun z => by cases z⟩
  · rw [z10] at ht; cases ht; exact ⟨rfl, fun z => by cases z⟩
theorem pTf_of {Z : eZ} (hZ : pZ Z) {c kf t : Nat} (h : pRf c kf) (ht : Z.2 c = some t) : t = 22 := by
  obtain ⟨_, _, _, _, z1, z2, z3, z4⟩ := hZ
  rcases h.1 with rfl | rfl | rfl | rfl
  · rw [z1] at ht; cases ht; rfl
  · rw [z2] at ht; cases ht; rfl
  · rw [z3] at ht; cases ht; rfl
  · rw [z4] at ht; cases ht; rfl
/-- what is left of the reference's text: it does not grow -/
def rhoV (w : sW) : Int := gF w 213 3 - gF w 213 5 + (if 2 ≤ gF w 213 7 then 1 else 0)
def jW (w w' : sW) : Prop := gF w' 213 3 = gF w 213 3 ∧ gF w 213 5 ≤ gF w' 213 5 ∧ rhoV w' ≤ rhoV w
theorem jW_rf (w : sW) : jW w w := ⟨rfl, Int.le_refl _, Int.le_refl _⟩
theorem jW_tr {a b c : sW} (h1 : jW a b) (h2 : jW b c) : jW a c := ⟨h2.1.trans h1.1, Int.le_trans h1.2.1 h2.2.1, Int.le_trans h2.2.2 h1.2.2⟩
theorem jW_eq {w w' : sW} (h3 : gF w' 213 3 = gF w 213 3) (h5 : gF w' 213 5 = gF w 213 5) (h7 : gF w' 213 7 = gF w 213 7) : jW w w' := by
  refine ⟨h3, Int.le_of_eq h5.symm, ?_⟩
  unfold rhoV
  rw [h3, h5, h7]
  exact Int.le_refl _
/-- the head of 'now' is kept -/
def hW (w w' : sW) : Prop := ∀ j, j < 5 → gX w' 215 j = gX w 215 j
/-- what may have changed: fields (type, number) and arrays (type, 999) of 'mods'; (61, 777) is not among them: the reference's text does not grow; (61, 778) is not among them: sentences stay good -/
def frOk (Z : eZ) (mods : List (Nat × Nat)) (w w' : sW) : Prop := w'.length = w.length ∧ (∀ (k : Nat) (c : sC), w[k]? = some c → (Z.2 k = none → w'[k]? = some c) ∧ ∀ t, Z.2 k = some t →
  match c with
  | .inl _ => (t, 999) ∉ mods → w'[k]? = some c
  | .inr q => ∃ fs', w'[k]? = some (.inr (q.1, fs')) ∧ ∀ (j : Nat), (t, j) ∉ mods → fs'[j]? = q.2[j]?) ∧ (Z.2 213 = some 61 → (61, 777) ∉ mods → jW w w') ∧ (pZ Z → (61, 778) ∉ mods → PW w → PW w') ∧ (pZ Z → (61, 779) ∉ mods → hW w w')
def mfOk (σ : List Int) (w : sW) (q : eK × eV) : Prop := ∃ (zr : Int) (k : Nat), σ[q.1.1.1]? = some zr ∧ (k : Int) = zr + q.1.1.2 ∧
  match q.1.2.1 with
  | 0 => ∃ (ci : Nat) (fs : List Value) (v : Value), w[k]? = some (.inr (ci, fs)) ∧ fs[q.1.2.2.1]? = some v ∧ avOk σ q.2 v
  | _ => ∃ (t : Nat) (vs : List Value) (zi : Int) (j : Nat) (v : Value), σ[q.1.2.2.1]? = some zi ∧ w[k]? = some (.inl (t, vs)) ∧ (j : Int) = zi + q.1.2.2.2 ∧ vs[j]? = some v ∧ avOk σ q.2 v
def gE (Z : eZ) (σ : List Int) (E : List (Nat × eE)) : Prop := ∀ q ∈ E, ∃ z, σ[q.1]? = some z ∧ evOk Z z q.2
def gM (σ : List Int) (w : sW) (M : List (eK × eV)) : Prop := ∀ q ∈ M, mfOk σ w q
def gL (σ : List Int) (L : List (Nat × eV)) (lv : List (Nat × Value)) : Prop := ∀ q ∈ L, ∃ v, l_get lv q.1 = some v ∧ avOk σ q.2 v
def gS (σ : List Int) : List eV → List Value → Prop
  | [], [] => True
  | a :: S, v :: st => avOk σ a v ∧ gS σ S st
  | _, _ => False
def gA (Z : eZ) (mods : List (Nat × Nat)) (w0 : sW) (A : eS) (σ : List Int) (ss : sS) : Prop :=
  (σ.length = A.2.2.2.2 ∧ σ[0]? = some 0) ∧ gL σ A.1 ss.1 ∧ gS σ A.2.1 ss.2.1 ∧ gM σ ss.2.2.1 A.2.2.1 ∧ gE Z σ A.2.2.2.1 ∧ wOk Z ss.2.2.1 ∧ frOk Z mods w0 ss.2.2.1 ∧ (∀ q ∈ ss.1, wfV ss.2.2.1.length q.2 = true) ∧ ss.2.2.2 = (0, 0)
def ext (σ σ' : List Int) : Prop := ∀ (i : Nat) (z : Int), σ[i]? = some z → σ'[i]? = some z
theorem ext_rf (σ : List Int) : ext σ σ := fun _ _ h => h
theorem ext_tr {a b c : List Int} (h : ext a b) (h' : ext b c) : ext a c := fun i z q => h' i z (h i z q)
theorem ext_ap (σ : List Int) (z : Int) : ext σ (σ ++ [z]) := by
  intro i z' h
  rw [List.getElem?_append_left (List.getElem?_eq_some_iff.mp h).1]
  exact h
theorem avOk_e {σ σ' : List Int} (h : ext σ σ') {a : eV} {v : Value} (q : avOk σ a v) : avOk σ' a v := by
  obtain ⟨z, h1, h2⟩ := q
  exact ⟨z, h _ _ h1, h2⟩
theorem gL_e {σ σ' : List Int} (h : ext σ σ') {L : List (Nat × eV)} {lv : List (Nat × Value)} (q : gL σ L lv) : gL σ' L lv := by
  intro p hp
  obtain ⟨v, h1, h2⟩ := q p hp
  exact ⟨v, h1, avOk_e h h2⟩
theorem gS_e {σ σ' : List Int} (h : ext σ σ') : ∀ {S : List eV} {st : List Value}, gS σ S st → gS σ' S st
  | [], [], _ => trivial
  | _ :: _, _ :: _, q => ⟨avOk_e h q.1, gS_e h q.2⟩
  | [], _ :: _, q => q
  | _ :: _, [], q => q
theorem mfOk_e {σ σ' : List Int} (h : ext σ σ') {w : sW} {q : eK × eV} (a : mfOk σ w q) : mfOk σ' w q := by
  obtain ⟨⟨⟨r, rc⟩, tg, s, c⟩, v⟩ := q
  obtain ⟨zr, k, h1, h2, h3⟩ := a
  refine ⟨zr, k, h _ _ h1, h2, ?_⟩
  dsimp only at h3 ⊢
  split at h3
  · obtain ⟨ci, fs, v, a1, a2, a3⟩ := h3
    exact ⟨ci, fs, v, a1, a2, avOk_e h a3⟩
  · obtain ⟨t, vs, zi, j, v, a1, a2, a3, a4, a5⟩ := h3
    exact ⟨t, vs, zi, j, v, h _ _ a1, a2, a3, a4, avOk_e h a5⟩
theorem gM_e {σ σ' : List Int} (h : ext σ σ') {w : sW} {M : List (eK × eV)} (q : gM σ w M) : gM σ' w M := fun p hp => mfOk_e h (q p hp)
theorem gE_e {Z : eZ} {σ σ' : List Int} (h : ext σ σ') {E : List (Nat × eE)} (q : gE Z σ E) : gE Z σ' E := by
  intro p hp
  obtain ⟨z, h1, h2⟩ := q p hp
  exact ⟨z, h _ _ h1, h2⟩
/-- what is known of a value -/
def ave (E : List (Nat × eE)) (a : eV) : Option eE := match Nat.beq a.2.1 0 with
  | true => some (.inl (a.2.2, a.2.2))
  | false => match eg E a.2.1 with
    | some (.inl q) => some (.inl (q.1 + a.2.2, q.2 + a.2.2))
    | some (.inr t) => match zeq a.2.2 0 with
      | true => some (.inr t)
      | false => none
    | none => none
theorem ave_ok {Z : eZ} {σ : List Int} {E : List (Nat × eE)} {a : eV} {e : eE} (h0 : σ[0]? = some 0) (hE : gE Z σ E) (h : ave E a = some e) {z : Int} (hz : σ[a.2.1]? = some z) : evOk Z (z + a.2.2) e := by
  obtain ⟨kd, s, c⟩ := a
  unfold ave at h
  dsimp only at h hz ⊢
  split at h
  · rename_i h1
    have := Nat.eq_of_beq_eq_true h1
    subst this
    rw [h0] at hz
    cases hz
    cases h
    exact ⟨by omega, by omega⟩
  · split at h
    · rename_i q h1
      obtain ⟨z', h2, h3⟩ := hE _ (eg_mem h1)
      dsimp only at h2
      rw [h2] at hz
      cases hz
      cases h
      have h3 : q.1 ≤ z ∧ z ≤ q.2 := h3
      exact ⟨by show q.1 + c ≤ z + c; omega, by show z + c ≤ q.2 + c; omega⟩
    · rename_i t h1
      split at h
      · rename_i h4
        obtain ⟨z', h2, h3⟩ := hE _ (eg_mem h1)
        dsimp only at h2
        rw [h2] at hz
        cases hz
        cases h
        rw [zeq_iff.mp h4, Int.add_zero]
        exact h3
      · cases h
    · cases h
/-- one kind of knowledge says more than another -/
def esub (Z : eZ) (e e' : eE) : Bool := match e, e' with
  | .inl q, .inl q' => match zle q'.1 q.1 with
    | true => zle q.2 q'.2
    | false => false
  | .inr t, .inr t' => Nat.beq t t'
  | .inl q, .inr t' => match zeq q.1 q.2 with
    | true => match q.1 with
      | .ofNat k => match Z.2 k with
        | some t => Nat.beq t t'
        | none => false
      | .negSucc _ => false
    | false => false
  | .inr _, .inl _ => false
theorem esub_ok {Z : eZ} {e e' : eE} (h : esub Z e e' = true) {z : Int} (hz : evOk Z z e) : evOk Z z e' := by
  unfold esub at h
  split at h
  · rename_i q q'
    split at h
    · rename_i h1
      rw [zle_iff] at h h1
      have hz : q.1 ≤ z ∧ z ≤ q.2 := hz
      exact ⟨Int.le_trans h1 hz.1, Int.le_trans hz.2 h⟩
    · cases h
  · rename_i t t'
    rw [← Nat.eq_of_beq_eq_true h]
    exact hz
  · rename_i q t'
    split at h
    · rename_i h1
      rw [zeq_iff] at h1
      have hz : q.1 ≤ z ∧ z ≤ q.2 := hz
      split at h
      · rename_i k h2
        split at h
        · rename_i t h3
          rw [← Nat.eq_of_beq_eq_true h]
          have h2 : q.1 = (k : Int) := h2
          exact ⟨k, by omega, h3⟩
        · cases h
      · cases h
    · cases h
  · cases h
/-- the type of the cell that a reference names -/
def rty (Z : eZ) (E : List (Nat × eE)) (a : eV) : Option Nat := match ave E a with
  | some (.inr t) => some t
  | some (.inl q) => match zeq q.1 q.2 with
    | true => match q.1 with
      | .ofNat k => Z.2 k
      | .negSucc _ => none
    | false => none
  | none => none
theorem rty_ok {Z : eZ} {σ : List Int} {E : List (Nat × eE)} {a : eV} {t : Nat} (h0 : σ[0]? = some 0) (hE : gE Z σ E) (h : rty Z E a = some t) {z : Int} (hz : σ[a.2.1]? = some z) : ∃ k : Nat, (k : Int) = z + a.2.2 ∧ Z.2 k = some t := by
  unfold rty at h
  split at h
  · rename_i t' h1
    cases h
    obtain ⟨k, e1, e2⟩ := ave_ok h0 hE h1 hz
    exact ⟨k, e1.symm, e2⟩
  · rename_i q h1
    have h2 : q.1 ≤ z + a.2.2 ∧ z + a.2.2 ≤ q.2 := ave_ok h0 hE h1 hz
    split at h
    · rename_i h3
      rw [zeq_iff] at h3
      split at h
      · rename_i k h4
        have h4 : q.1 = (k : Int) := h4
        exact ⟨k, by omega, h⟩
      · cases h
    · cases h
  · cases h
/-- a new value: kind, what is known -/
def fre (kd : Nat) (e : eE) (E : List (Nat × eE)) (N : Nat) : eV × List (Nat × eE) × Nat := match e with
  | .inl q => match zeq q.1 q.2 with
    | true => ((kd, 0, q.1), E, N)
    | false => ((kd, N, 0), (N, e) :: E, N + 1)
  | .inr _ => ((kd, N, 0), (N, e) :: E, N + 1)
theorem fre_ok {Z : eZ} {σ : List Int} {E : List (Nat × eE)} {N kd : Nat} {e : eE} {v : Value} (hN : σ.length = N) (h0 : σ[0]? = some 0) (hE : gE Z σ E) (h : fvOk Z (kd, e) v) : ∃ σ', ext σ σ' ∧ (σ'.length = (fre kd e E N).2.2 ∧ σ'[0]? = some 0) ∧ gE Z σ' (fre kd e E N).2.1 ∧ avOk σ' (fre kd e E N).1 v := by
  obtain ⟨z, h1, h2⟩ := h
  dsimp only at h1 h2
  have new : ∃ σ', ext σ σ' ∧ (σ'.length = N + 1 ∧ σ'[0]? = some 0) ∧ gE Z σ' ((N, e) :: E) ∧ avOk σ' (kd, N, 0) v := by
    have e1 := ext_ap σ z
    have e2 : (σ ++ [z])[N]? = some z := by
      rw [← hN, List.getElem?_append_right (Nat.le_refl _)]
      simp
    refine ⟨σ ++ [z], e1, ⟨by simp [hN], e1 _ _ h0⟩, ?_, z, e2, by simpa using h1⟩
    intro q hq
    rcases List.mem_cons.mp hq with h | h
    · subst h
      exact ⟨z, e2, h2⟩
    · obtain ⟨z', a, b⟩ := hE q h
      exact ⟨z', e1 _ _ a, b⟩
  unfold fre
  split
  · rename_i q
    split
    · rename_i h3
      rw [zeq_iff] at h3
      have h2 : q.1 ≤ z ∧ z ≤ q.2 := h2
      have h4 : z = q.1 := by omega
      exact ⟨σ, ext_rf σ, ⟨hN, h0⟩, hE, 0, h0, by rw [h4] at h1; simpa using h1⟩
    · exact new
  · exact new
/-- acts and their symbolic steps -/
abbrev tA : Type := eS → Option (List (Option Nat × eS))
def aim (act : sA) (ss : sS) (pc : Option Nat) (ss' : sS) : Prop := match pc with
  | none => ∀ k, act k ss = some (ss'.2.1.head?, ss'.2.2)
  | some pc => ∀ k, act k ss = k pc ss'
def trOk (Z : eZ) (mods : List (Nat × Nat)) (act : sA) (t : tA) : Prop := ∀ A L, t A = some L → ∀ (σ : List Int) (w0 : sW) (ss : sS), gA Z mods w0 A σ ss → ∃ B ∈ L, ∃ σ' ss', ext σ σ' ∧ gA Z mods w0 B.2 σ' ss' ∧ aim act ss B.1 ss'
end
