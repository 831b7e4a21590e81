/-! ===== pure part A: loops, small numbers, the board's squares ===== -/
def b01 (c : Bool) : Int32 := if c then 1 else 0
theorem b01_t : b01 true = 1 := rfl
theorem b01_f : b01 false = 0 := rfl
theorem is01_b01 (c : Bool) : is01 (b01 c) = true := by cases c <;> rfl
theorem b01_0 (c : Bool) : (b01 c = 0) = (c = false) := by cases c <;> simp [b01]
theorem b01_1 (c : Bool) : (b01 c = 1) = (c = true) := by cases c <;> simp [b01]
theorem grd_t {β : Type} (k : Option β) : grd true k = k := rfl
theorem jn_eq {α β : Type} (x : α) (k : α → β) : jn x k = k x := rfl
theorem bnd_eq {α β : Type} (x : α) (k : α → Option β) : bnd x k = k x := rfl
/-! loops that are let run -/
def Runs {σ ρ : Type} (B : (σ → Option ρ) → σ → Option ρ) (k : Nat) (z : σ) (res : Option ρ) : Prop := ∀ n, k ≤ n → lp B n z = res
theorem Runs.stop {σ ρ : Type} {B : (σ → Option ρ) → σ → Option ρ} {z : σ} {res : Option ρ} (h : ∀ self, B self z = res) : Runs B 1 z res := by
  intro n hn
  obtain ⟨m, rfl⟩ : ∃ m, n = m + 1 := ⟨n - 1, by omega⟩
  exact h _
theorem Runs.step {σ ρ : Type} {B : (σ → Option ρ) → σ → Option ρ} {k : Nat} {z z' : σ} {res : Option ρ} (h : ∀ self, B self z = self z') (r : Runs B k z' res) : Runs B (k + 1) z res := by
  intro n hn
  obtain ⟨m, rfl⟩ : ∃ m, n = m + 1 := ⟨n - 1, by omega⟩
  exact (h _).trans (r m (by omega))
theorem Runs.more {σ ρ : Type} {B : (σ → Option ρ) → σ → Option ρ} {k k' : Nat} {z : σ} {res : Option ρ} (r : Runs B k z res) (h : k ≤ k') : Runs B k' z res := fun n hn => r n (by omega)
/-- a loop over i = j .. m, its state a function of i -/
theorem Runs.for {σ ρ : Type} {B : (σ → Option ρ) → σ → Option ρ} {st : Nat → σ} {m : Nat} {res : Option ρ} (hs : ∀ i, i < m → ∀ self, B self (st i) = self (st (i + 1))) (he : ∀ self, B self (st m) = res) : ∀ d j, j + d = m → Runs B (d + 1) (st j) res
  | 0, j, h => by
    have : j = m := by omega
    subst this
    exact Runs.stop he
  | d + 1, j, h => Runs.step (hs j (by omega)) (Runs.for hs he d (j + 1) (by omega))
theorem lp_for {σ ρ : Type} {B : (σ → Option ρ) → σ → Option ρ} (st : Nat → σ) (m : Nat) {res : Option ρ} (hs : ∀ i, i < m → ∀ self, B self (st i) = self (st (i + 1))) (he : ∀ self, B self (st m) = res) {n : Nat} (hn : m < n) : lp B n (st 0) = res := Runs.for hs he m 0 (by omega) n (by omega)
/-- numbers in order, summed -/
def sumN (g : Nat → Nat) : Nat → Nat
  | 0 => 0
  | n + 1 => sumN g n + g n
theorem sumN_congr {g h : Nat → Nat} : ∀ {n : Nat}, (∀ i, i < n → g i = h i) → sumN g n = sumN h n
  | 0, _ => rfl
  | n + 1, H => by
    show sumN g n + g n = sumN h n + h n
    rw [sumN_congr (fun i hi => H i (by omega)), H n (by omega)]
theorem sumN_le {g : Nat → Nat} {c : Nat} : ∀ {n : Nat}, (∀ i, i < n → g i ≤ c) → sumN g n ≤ n * c
  | 0, _ => Nat.zero_le _
  | n + 1, H => by
    have h1 := sumN_le (g := g) (c := c) (n := n) (fun i hi => H i (by omega))
    have h2 := H n (by omega)
    show sumN g n + g n ≤ (n + 1) * c
    rw [Nat.succ_mul]
    omega
theorem sumN_zero {g : Nat → Nat} : ∀ {n : Nat}, (sumN g n = 0) = (∀ i, i < n → g i = 0)
  | 0 => by simp [sumN]
  | n + 1 => by
    show (sumN g n + g n = 0) = _
    rw [eq_iff_iff]
    constructor
    · intro h i hi
      have h1 : sumN g n = 0 := by omega
      rw [sumN_zero] at h1
      rcases (by omega : i < n ∨ i = n) with h2 | h2
      · exact h1 i h2
      · rw [h2]; omega
    · intro h
      have h1 : sumN g n = 0 := by
        rw [sumN_zero]
        exact fun i hi => h i (by omega)
      have h2 := h n (by omega)
      omega
/-! small numbers -/
theorem inB_nI {i n : Nat} (hi : i < 2 ^ 31) : inB (nI i) n = decide (i < n) := by
  unfold inB
  rw [nI_clamp hi]
  have h1 : ¬ nI i < 0 := nI_pos hi
  simp only [h1, decide_false, Bool.false_or]
  by_cases h : i < n
  · simp [h, Nat.not_le.mpr h]
  · simp [h, Nat.not_lt.mp h]
theorem nI_lit (n : Nat) : (OfNat.ofNat n : Int32) = nI n := rfl
theorem nI_m1 {i : Nat} (hi : i < 2 ^ 31) : (nI i = -1) = False := by
  rw [eq_iff_iff]
  refine ⟨fun h => ?_, False.elim⟩
  have h1 := nI_toInt hi
  rw [h] at h1
  have h2 : (-1 : Int32).toInt = -1 := by decide
  rw [h2] at h1
  omega
theorem m1_nI {i : Nat} (hi : i < 2 ^ 31) : ((-1 : Int32) = nI i) = False := by
  rw [eq_iff_iff]
  exact ⟨fun h => Eq.mp (nI_m1 hi) h.symm, False.elim⟩
/-! the board's squares -/
/-- the square beside one: 0 up, 1 right, 2 down, 3 left -/
def nx (s w : Nat) : Option Nat := if w = 0 then (if 7 ≤ s then some (s - 7) else none) else if w = 1 then (if s % 7 < 6 then some (s + 1) else none) else if w = 2 then (if s + 7 < 49 then some (s + 7) else none) else (if 0 < s % 7 then some (s - 1) else none)
def enc : Option Nat → Int32
  | none => -1
  | some k => nI k
def rayF : Nat → Nat → Nat → List Nat
  | 0, _, _ => []
  | n + 1, s, w => match nx s w with
    | none => []
    | some t => t :: rayF n t w
/-- the squares from one on in a direction -/
def ray (s w : Nat) : List Nat := rayF 6 s w
theorem nx_lt : ∀ s, s < 49 → ∀ w, w < 4 → ∀ t, nx s w = some t → t < 49 := by
  intro s hs w hw t h
  unfold nx at h
  split at h
  · split at h <;> simp at h; omega
  split at h
  · split at h <;> simp at h; omega
  split at h
  · split at h <;> simp at h; omega
  split at h <;> simp at h; omega
theorem ray_step : ∀ s, s < 49 → ∀ w, w < 4 → ray s w = (match nx s w with | none => [] | some t => t :: ray t w) := by decide +kernel
theorem ray_len : ∀ s, s < 49 → ∀ w, w < 4 → (ray s w).length ≤ 6 := by decide +kernel
theorem ray_lt : ∀ s, s < 49 → ∀ w, w < 4 → ∀ t ∈ ray s w, t < 49 := by decide +kernel
theorem ray_head : ∀ s, s < 49 → ∀ w, w < 4 → enc (ray s w).head? = enc (nx s w) := by decide +kernel
/-- what is left of a way: its first square, and the squares behind it -/
def Way (w : Nat) : List Nat → Prop
  | [] => True
  | t :: r => t < 49 ∧ r = ray t w
theorem Way_ray {s w : Nat} (hs : s < 49) (hw : w < 4) : Way w (ray s w) := by
  have h := ray_step s hs w hw
  cases hn : nx s w with
  | none => rw [hn] at h; rw [h]; trivial
  | some t => rw [hn] at h; rw [h]; exact ⟨nx_lt s hs w hw t hn, rfl⟩
theorem Way_tail {w t : Nat} {r : List Nat} (hw : w < 4) (h : Way w (t :: r)) : Way w r := h.2 ▸ Way_ray h.1 hw
theorem nx_way {w t : Nat} {r : List Nat} (hw : w < 4) (h : Way w (t :: r)) : enc (nx t w) = enc r.head? := by
  rw [h.2]
  exact (ray_head t h.1 w hw).symm
/-- the class's directions: 0 up, 1 left, 2 right, 3 down -/
def cw (d : Nat) : Nat := if d = 0 then 0 else if d = 1 then 3 else if d = 2 then 1 else 2
theorem cw_lt (d : Nat) : cw d < 4 := by
  unfold cw
  split
  · decide
  split
  · decide
  split <;> decide
theorem f_beside : ∀ s, s < 49 → ∀ d, d < 4 → fX8_beside (nI s) (nI d) = some (enc (nx s (cw d))) := by decide +kernel
theorem f_beside_m1 : ∀ d, d < 4 → fX8_beside (-1) (nI d) = some (-1) := by decide +kernel
def isCo (s : Nat) : Bool := s == 0 || s == 6 || s == 42 || s == 48
/-- may a piece rest there -/
def rst (p : Int32) (s : Nat) : Bool := decide (p = 3) || !(s == 24 || isCo s)
def sd (p : Int32) : Int32 := if p = 0 then -1 else if p = 1 then 0 else 1
theorem f_isCorner8 : ∀ s, s < 49 → fX8_isCorner (nI s) = some (b01 (isCo s)) := by decide +kernel
theorem f_side8 (p : Int32) : fX8_sideOf p = some (sd p) := by
  unfold fX8_sideOf sd
  split
  · rfl
  split <;> rfl
theorem mayStop0 : ∀ s, s < 49 → fX8_mayStop 0 (nI s) = some (b01 (!(s == 24 || isCo s))) := by decide +kernel
theorem f_mayStop (p : Int32) (s : Nat) (hs : s < 49) : fX8_mayStop p (nI s) = some (b01 (rst p s)) := by
  by_cases h : p = 3
  · subst h
    have h1 : rst 3 s = true := by unfold rst; simp
    rw [h1]
    unfold fX8_mayStop
    rw [if_pos rfl]
    rfl
  · have h1 : rst p s = !(s == 24 || isCo s) := by unfold rst; simp [h]
    have h0 := mayStop0 s hs
    rw [h1, ← h0]
    unfold fX8_mayStop
    exact (if_neg h).trans (if_neg (by decide : ¬ (0 : Int32) = 3)).symm
