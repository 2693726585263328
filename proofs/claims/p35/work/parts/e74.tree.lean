/-! Edges as trees; the chart of a sentence, said once. -/
abbrev Tr : Type := Lean.RArray (Nat × Nat × Int32 × Nat)
/-- a leaf: place, reading, category, features; a branch: rule, left part, right part (or dum) -/
def dum : Tr := .leaf (0, 0, nM, 0)
def tC (G : Ob) : Tr → Int32
  | .leaf a => a.2.2.1
  | .branch g _ _ => G 22 g
def uF (o : Option Uf) : Nat := match o with
  | none => 0
  | some u => pf u
def uK (o : Option Uf) : Int32 := match o with
  | none => iN 0
  | some u => u.2.1
def uR (o : Option Uf) : Nat → Nat := match o with
  | none => fun _ => 0
  | some u => u.2.2
def tF (G : Ob) : Tr → Nat
  | .leaf a => a.2.2.2
  | .branch g l r => uF (uni G g (tF G l) (tF G r))
def tK (G : Ob) : Tr → Int32
  | .leaf _ => iN 0
  | .branch g l r => tK G l + tK G r + uK (uni G g (tF G l) (tF G r))
def tR (G : Ob) : Tr → Nat → Nat
  | .leaf _ => fun _ => 0
  | .branch g l r => uR (uni G g (tF G l) (tF G r))
def tB : Tr → Nat
  | .leaf a => a.1
  | .branch _ l _ => tB l
def tW : Tr → Nat
  | .leaf a => if a.2.2.1 = nM then 0 else 1
  | .branch _ l r => tW l + tW r
def sp (t : Tr) : Nat := 6 * tB t + tW t - 1
def isUn (G : Ob) : Tr → Prop
  | .leaf _ => False
  | .branch g _ _ => G 24 g = nM
def WT (G : Ob) : Tr → Prop
  | .leaf a => a.1 < 6 ∧ a.2.1 < 4 ∧ (∃ c, c ≤ 9 ∧ a.2.2.1 = iN c) ∧ a.2.2.2 < 64
  | .branch g l r => g < nn (G 21 0) ∧ WT G l ∧ tC G l = G 23 g ∧ (uni G g (tF G l) (tF G r)).isSome = true ∧ (G 24 g = nM → r = dum) ∧ (G 24 g ≠ nM → WT G r ∧ tC G r = G 24 g ∧ tB r = tB l + tW l)
theorem tW_dum : tW dum = 0 := by decide
theorem tW_pos {G : Ob} (t : Tr) : WT G t → 1 ≤ tW t := by
  induction t with
  | leaf a =>
    intro h
    obtain ⟨-, -, ⟨c, hc, e⟩, -⟩ := h
    simp (disch := omega) only [tW, e, iN_nM, if_false]
    exact Nat.le_refl 1
  | branch g l r ihl ihr =>
    intro h
    have := ihl h.2.1
    rw [tW]; omega
theorem pf_lt {G : Ob} {g lf rf : Nat} (hG : WGr G) (hg : g < nn (G 21 0)) {u : Uf} (h : uni G g lf rf = some u) : pf u < 64 :=
  pkv_lt ((UB_n hG hg (Nat.le_refl _) h).1 0)
theorem tF_lt {G : Ob} (hG : WGr G) (t : Tr) : WT G t → tF G t < 64 := by
  cases t with
  | leaf a => intro h; exact h.2.2.2
  | branch g l r =>
    intro h
    rw [tF]
    cases hu : uni G g (tF G l) (tF G r) with
    | none => decide
    | some u => exact pf_lt hG h.1 hu
theorem tC_le {G : Ob} (hG : WGr G) (t : Tr) : WT G t → ∃ c, c ≤ 9 ∧ tC G t = iN c := by
  cases t with
  | leaf a => intro h; exact h.2.2.1
  | branch g l r => intro h; exact (hG.2 g h.1).1
/-- a chart: for each span its edges -/
abbrev Ch : Type := Nat → List Tr
def upL (ch : Ch) (s : Nat) (l : List Tr) : Ch := fun s' => if s' = s then l else ch s'
def al (G : Ob) (t e : Tr) : Bool := decide (tC G e = tC G t) && decide (tF G e = tF G t)
def adI (G : Ob) (ch : Ch) (s : Nat) (t : Tr) : Nat := (ch s).findIdx (al G t)
def addE (G : Ob) (ch : Ch) (s : Nat) (t : Tr) : Ch :=
  if adI G ch s t < (ch s).length then
    if tK G t < tK G ((ch s).getD (adI G ch s t) dum) then upL ch s ((ch s).set (adI G ch s t) t) else ch
  else if (ch s).length = 8 then ch else upL ch s (ch s ++ [t])
def tryE (G : Ob) (ch : Ch) (s g : Nat) (l r : Tr) : Ch := if (uni G g (tF G l) (tF G r)).isSome = true then addE G ch s (.branch g l r) else ch
def usR (G : Ob) (s g : Nat) (l : Tr) (rs : List Tr) (ch : Ch) : Ch := rs.foldl (fun ch r => if tC G r = G 24 g then tryE G ch s g l r else ch) ch
def uls (G : Ob) (s g : Nat) (rs ls : List Tr) (ch : Ch) : Ch := ls.foldl (fun ch l => if tC G l = G 23 g then usR G s g l rs ch else ch) ch
def rlF (G : Ob) (s a b : Nat) : Nat → Ch → Ch
  | 0, ch => ch
  | g + 1, ch => if G 24 g = nM then rlF G s a b g ch else uls G s g (rlF G s a b g ch b) (rlF G s a b g ch a) (rlF G s a b g ch)
def cutF (G : Ob) (b m : Nat) : Nat → Ch → Ch
  | 0, ch => ch
  | k + 1, ch => rlF G (6 * b + m - 1) (6 * b + k) (6 * (b + k + 1) + (m - (k + 1)) - 1) (nn (G 21 0)) (cutF G b m k ch)
def sing (G : Ob) : List Nat := (List.range 10).flatMap (fun c => (List.range (nn (G 21 0))).filter (fun g => decide (G 24 g = nM ∧ G 22 g = iN c)))
def abF (G : Ob) (s : Nat) (gs : List Nat) (ch : Ch) : Ch := gs.foldl (fun ch g => uls G s g [dum] (ch s) ch) ch
def gF (c : Int32) (f v : Nat) : Nat := if c = iN 1 then (f + (if fv f 0 = 0 then v % 4 else 0) + (if fv f 1 = 0 then 4 * (v / 4 % 4) else 0)) else f
def wdF (G : Ob) (E : Ev) (L gv : Nat → Nat) (p : Nat) : Nat → Ch → Ch
  | 0, ch => ch
  | k + 1, ch => if (L p).testBit k = true then addE G (wdF G E L gv p k ch) (6 * p) (.leaf (p, k, eT E p k, gF (eT E p k) (eP E p k) (gv p))) else wdF G E L gv p k ch
def celF (G : Ob) (E : Ev) (L gv : Nat → Nat) (m b : Nat) (ch : Ch) : Ch := abF G (6 * b + m - 1) (sing G) (if m = 1 then wdF G E L gv b 4 ch else cutF G b m (m - 1) ch)
def froF (G : Ob) (E : Ev) (L gv : Nat → Nat) (m : Nat) : Nat → Ch → Ch
  | 0, ch => ch
  | b + 1, ch => celF G E L gv m b (froF G E L gv m b ch)
def manF (G : Ob) (E : Ev) (L gv : Nat → Nat) : Nat → Ch → Ch
  | 0, ch => ch
  | m + 1, ch => froF G E L gv (m + 1) (eL E - m) (manF G E L gv m ch)
def cht (G : Ob) (E : Ev) (L gv : Nat → Nat) : Ch := manF G E L gv (eL E) (fun _ => [])
/-- what holds of a chart while the span of m words from b is being filled; unary edges there are of categories below P -/
def Iv (G : Ob) (ch : Ch) (b m P : Nat) : Prop := 1 ≤ m ∧ b + m ≤ 6 ∧ (∀ s, ∀ t, t ∈ ch s → WT G t ∧ sp t = s ∧ tB t + tW t ≤ 6) ∧ (∀ s, m ≤ s % 6 → ch s = []) ∧ (∀ s, (ch s).length ≤ 8) ∧ ∀ t, t ∈ ch (6 * b + m - 1) → isUn G t → nn (tC G t) < P
theorem addE_mem {G : Ob} {ch : Ch} {s : Nat} {t e : Tr} {s' : Nat} (h : e ∈ addE G ch s t s') : e ∈ ch s' ∨ (s' = s ∧ e = t) := by
  unfold addE at h
  split at h
  · split at h
    · unfold upL at h
      split at h
      · rename_i he; subst he
        rcases List.mem_or_eq_of_mem_set h with h | h
        · exact Or.inl h
        · exact Or.inr ⟨rfl, h⟩
      · exact Or.inl h
    · exact Or.inl h
  · split at h
    · exact Or.inl h
    · unfold upL at h
      split at h
      · rename_i he; subst he
        rcases List.mem_append.mp h with h | h
        · exact Or.inl h
        · exact Or.inr ⟨rfl, List.mem_singleton.mp h⟩
      · exact Or.inl h
theorem addE_ne {G : Ob} {ch : Ch} {s : Nat} {t : Tr} {s' : Nat} (h : s' ≠ s) : addE G ch s t s' = ch s' := by
  unfold addE upL
  split
  · split
    · exact if_neg h
    · rfl
  · split
    · rfl
    · exact if_neg h
theorem addE_len {G : Ob} {ch : Ch} {s : Nat} {t : Tr} (hl : (ch s).length ≤ 8) : (ch s).length ≤ (addE G ch s t s).length ∧ (addE G ch s t s).length ≤ 8 := by
  unfold addE upL
  split
  · split
    · simp only [if_true, List.length_set]; omega
    · omega
  · split
    · omega
    · simp only [if_true, List.length_append, List.length_singleton]; omega
theorem Iv_add {G : Ob} {ch : Ch} {b m P : Nat} (h : Iv G ch b m P) {t : Tr} (ht : WT G t) (hb : tB t = b) (hw : tW t = m) (hu : isUn G t → nn (tC G t) < P) : Iv G (addE G ch (6 * b + m - 1) t) b m P := by
  obtain ⟨h1, h2, h3, h4, h5, h6⟩ := h
  refine ⟨h1, h2, ?_, ?_, ?_, ?_⟩
  · intro s e he
    rcases addE_mem he with he | ⟨e1, e2⟩
    · exact h3 s e he
    · subst e2; exact ⟨ht, by rw [e1, sp, hb, hw], by omega⟩
  · intro s hs
    rw [addE_ne (by omega)]; exact h4 s hs
  · intro s
    by_cases e : s = 6 * b + m - 1
    · subst e; exact (addE_len (h5 _)).2
    · rw [addE_ne e]; exact h5 s
  · intro e he hue
    rcases addE_mem he with he | ⟨-, e2⟩
    · exact h6 e he hue
    · subst e2; exact hu hue
